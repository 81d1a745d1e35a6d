/-! The abstract machine's values, locals and cells, beside the machine's own. -/
def am_cv (ρ : Nat → Nat) (v : Value) : Value := match v with
  | .ref q => .ref (ρ q)
  | w => w
theorem am_cv_cat {ρ : Nat → Nat} {v : Value} : (am_cv ρ v).category = v.category := by cases v <;> rfl
theorem am_cv_rf {ρ : Nat → Nat} {o : Option Nat} : am_cv ρ (va_rf o) = va_rf (o.map ρ) := by cases o <;> rfl
theorem am_cv_eq {ρ ρ' : Nat → Nat} {n : Nat} {v : Value} (h : ∀ k, k < n → ρ' k = ρ k) (hv : am_vv n v) : am_cv ρ' v = am_cv ρ v := by
  cases v <;> first | rfl | (show Value.ref _ = Value.ref _; rw [h _ hv])
theorem am_cs_eq {ρ ρ' : Nat → Nat} {n : Nat} {st : List Value} (h : ∀ k, k < n → ρ' k = ρ k) (hv : am_vt n st) : st.map (am_cv ρ') = st.map (am_cv ρ) := List.map_congr_left (fun v hm => am_cv_eq h (hv v hm))
theorem am_cs_sum {ρ : Nat → Nat} {st : List Value} : ((st.map (am_cv ρ)).map fun v => v.category).sum = (st.map fun v => v.category).sum := by
  rw [List.map_map]
  congr 1
  exact List.map_congr_left (fun v _ => am_cv_cat)
def am_kn (ρ : Nat → Nat) (L : am_L) : List (Nat × Value) := (List.range L.length).filterMap (fun i => (am_ld L i).map (fun v => (i, am_cv ρ v)))
theorem am_kn_m {ρ : Nat → Nat} {L : am_L} {q : Nat × Value} : q ∈ am_kn ρ L ↔ ∃ v, L[q.1]? = some (some v) ∧ q.2 = am_cv ρ v := by
  unfold am_kn
  rw [List.mem_filterMap]
  constructor
  · rintro ⟨i, hi, e⟩
    obtain ⟨v, e1, rfl⟩ := Option.map_eq_some_iff.mp e
    exact ⟨v, am_ld_s e1, rfl⟩
  · rintro ⟨v, e1, e2⟩
    refine ⟨q.1, List.mem_range.mpr (List.getElem?_eq_some_iff.mp e1).1, ?_⟩
    have e3 : am_ld L q.1 = some v := by unfold am_ld; rw [e1]
    rw [e3]
    show some (q.1, am_cv ρ v) = some q
    rw [← e2]
def am_lr (ρ : Nat → Nat) (L : am_L) (ls : Array Slot) (nL : Nat) : Prop := lv_has ls nL (am_kn ρ L) ∧ L.length = nL
theorem am_lr_at {ρ : Nat → Nat} {L : am_L} {ls : Array Slot} {nL i : Nat} {v : Value} (h : am_lr ρ L ls nL) (e : am_ld L i = some v) : ls[i]? = some (.val (am_cv ρ v)) := h.1.2.2 (i, am_cv ρ v) (am_kn_m.mpr ⟨v, am_ld_s e, rfl⟩)
theorem am_lr_s1 {ρ : Nat → Nat} {L : am_L} {ls' : Array Slot} {nL i : Nat} {v : Value} (h : L.length = nL) (h' : lv_has ls' nL ((i, am_cv ρ v) :: (am_kn ρ L).filter (fun q => !(q.1 == i) && !(q.1 + 1 == i && q.2.category == 2)))) : am_lr ρ (am_s1 L i v) ls' nL := by
  refine ⟨⟨h'.1, h'.2.1, fun q hq => h'.2.2 q ?_⟩, by rw [am_s1_len]; exact h⟩
  obtain ⟨w, e1, e2⟩ := am_kn_m.mp hq
  rcases am_s1_at e1 with g | g
  · rw [show q = (i, am_cv ρ v) from Prod.ext g.1 (by rw [e2, g.2])]; exact List.mem_cons_self
  · refine List.mem_cons_of_mem _ (List.mem_filter.mpr ⟨am_kn_m.mpr ⟨w, g.2.1, e2⟩, ?_⟩)
    have c : q.2.category = w.category := by rw [e2, am_cv_cat]
    rw [c]
    by_cases e3 : q.1 + 1 = i
    · have e4 : ¬ w.category = 2 := fun z => g.2.2 ⟨e3, z⟩
      simp [g.1, e4]
    · simp [g.1, e3]
theorem am_lr_s2 {ρ : Nat → Nat} {L : am_L} {ls' : Array Slot} {nL i : Nat} {v : Value} (h : L.length = nL) (h' : lv_has ls' nL ((i, am_cv ρ v) :: (am_kn ρ L).filter (fun q => !(q.1 == i) && (!(q.1 == i + 1) && !(q.1 + 1 == i && q.2.category == 2))))) : am_lr ρ (am_s2 L i v) ls' nL := by
  refine ⟨⟨h'.1, h'.2.1, fun q hq => h'.2.2 q ?_⟩, by rw [am_s2_len]; exact h⟩
  obtain ⟨w, e1, e2⟩ := am_kn_m.mp hq
  rcases am_s2_at e1 with g | g
  · rw [show q = (i, am_cv ρ v) from Prod.ext g.1 (by rw [e2, g.2])]; exact List.mem_cons_self
  · refine List.mem_cons_of_mem _ (List.mem_filter.mpr ⟨am_kn_m.mpr ⟨w, g.2.2.1, e2⟩, ?_⟩)
    have c : q.2.category = w.category := by rw [e2, am_cv_cat]
    rw [c]
    by_cases e3 : q.1 + 1 = i
    · have e4 : ¬ w.category = 2 := fun z => g.2.2.2 ⟨e3, z⟩
      simp [g.1, g.2.1, e4]
    · simp [g.1, g.2.1, e3]
theorem am_lr_eq {ρ ρ' : Nat → Nat} {n : Nat} {L : am_L} {ls : Array Slot} {nL : Nat} (h : ∀ k, k < n → ρ' k = ρ k) (hv : am_vl n L) (hl : am_lr ρ L ls nL) : am_lr ρ' L ls nL := by
  refine ⟨⟨hl.1.1, hl.1.2.1, fun q hq => ?_⟩, hl.2⟩
  obtain ⟨v, e1, e2⟩ := am_kn_m.mp hq
  rw [e2, am_cv_eq h (hv _ _ e1)]
  exact hl.1.2.2 (q.1, am_cv ρ v) (am_kn_m.mpr ⟨v, e1, rfl⟩)
def am_cn (c : Nat) : String := match am_cl[c]? with
  | some q => q.1
  | none => ""
def am_et (z : am_S) : FieldType := match z.1 with
  | 1 => .int
  | 3 => .boolean
  | _ => .object (am_cn z.2.1)
def am_fs (ρ : Nat → Nat) (h : am_H) (k c : Nat) : List Value := (List.range (am_nf c)).map (fun j => am_cv ρ (am_gv h k c j))
def am_cell (ρ : Nat → Nat) (α : Nat → ClassId) (h : am_H) (k : Nat) : va_E := match (am_sh h k).1 with
  | 0 => .inr ((am_sh h k).2.1, am_fs ρ h k (am_sh h k).2.1)
  | 2 => .inl (α k, (am_sh h k).2.2, .inr (.inr (.inr (.inr (fun j => (am_P h k j).map ρ)))))
  | _ => .inl (α k, (am_sh h k).2.2, .inl (am_I h k))
theorem am_cell_0 {ρ : Nat → Nat} {α : Nat → ClassId} {h : am_H} {k c : Nat} (e : (am_sh h k).1 = 0) (e2 : (am_sh h k).2.1 = c) : am_cell ρ α h k = .inr (c, am_fs ρ h k c) := by
  subst e2; unfold am_cell; rw [e]; rfl
theorem am_cell_1 {ρ : Nat → Nat} {α : Nat → ClassId} {h : am_H} {k : Nat} (e : (am_sh h k).1 = 1) : am_cell ρ α h k = .inl (α k, (am_sh h k).2.2, .inl (am_I h k)) := by
  unfold am_cell; rw [e]; rfl
theorem am_cell_3 {ρ : Nat → Nat} {α : Nat → ClassId} {h : am_H} {k : Nat} (e : (am_sh h k).1 = 3) : am_cell ρ α h k = .inl (α k, (am_sh h k).2.2, .inl (am_I h k)) := by
  unfold am_cell; rw [e]; rfl
theorem am_cell_2 {ρ : Nat → Nat} {α : Nat → ClassId} {h : am_H} {k : Nat} (e : (am_sh h k).1 = 2) : am_cell ρ α h k = .inl (α k, (am_sh h k).2.2, .inr (.inr (.inr (.inr (fun j => (am_P h k j).map ρ))))) := by
  unfold am_cell; rw [e]; rfl
theorem am_cell_a {ρ : Nat → Nat} {α : Nat → ClassId} {h : am_H} {k : Nat} (e : ¬ (am_sh h k).1 = 0) : ∃ x : vp_A, am_cell ρ α h k = .inl (α k, x) ∧ x.1 = (am_sh h k).2.2 := by
  unfold am_cell
  split
  · exact absurd ‹_› e
  · exact ⟨_, rfl, rfl⟩
  · exact ⟨_, rfl, rfl⟩
def am_ws (ρ : Nat → Nat) (α : Nat → ClassId) (h : am_H) : va_W := (List.range (am_n h - 1)).map (fun k => (ρ (k + 1), am_cell ρ α h (k + 1)))
theorem am_ws_len {ρ : Nat → Nat} {α : Nat → ClassId} {h : am_H} : (am_ws ρ α h).length = am_n h - 1 := by unfold am_ws; simp
theorem am_ws_get {ρ : Nat → Nat} {α : Nat → ClassId} {h : am_H} {i : Nat} : (am_ws ρ α h)[i]? = if i < am_n h - 1 then some (ρ (i + 1), am_cell ρ α h (i + 1)) else none := by
  unfold am_ws
  rw [List.getElem?_map]
  by_cases e : i < am_n h - 1
  · rw [List.getElem?_range e, if_pos e]; rfl
  · rw [if_neg e, List.getElem?_eq_none (by simp; omega)]; rfl
theorem am_ws_at {ρ : Nat → Nat} {α : Nat → ClassId} {h : am_H} {k : Nat} {E : va_E} (h0 : 0 < k) (h1 : k < am_n h) (hE : am_cell ρ α h k = E) : (am_ws ρ α h)[k - 1]? = some (ρ k, E) := by
  rw [am_ws_get, if_pos (by omega), show k - 1 + 1 = k by omega, hE]
theorem am_ws_set {ρ : Nat → Nat} {α : Nat → ClassId} {h h' : am_H} {k : Nat} {E : va_E} (h0 : 0 < k) (h1 : k < am_n h) (hn : am_n h' = am_n h) (hE : am_cell ρ α h' k = E) (ho : ∀ j, j ≠ k → am_cell ρ α h' j = am_cell ρ α h j) : (am_ws ρ α h).set (k - 1) (ρ k, E) = am_ws ρ α h' := by
  apply List.ext_getElem?
  intro i
  rw [List.getElem?_set, am_ws_get, am_ws_get, am_ws_len, hn]
  by_cases e : k - 1 = i
  · subst e
    rw [if_pos rfl, if_pos (by omega), if_pos (by omega), show k - 1 + 1 = k by omega, hE]
  · rw [if_neg e]
    by_cases e2 : i < am_n h - 1
    · rw [if_pos e2, if_pos e2, ho (i + 1) (by omega)]
    · rw [if_neg e2, if_neg e2]
theorem am_ws_new {ρ ρ' : Nat → Nat} {α α' : Nat → ClassId} {h h' : am_H} {q : Nat} {E : va_E} (h0 : 0 < am_n h) (hn : am_n h' = am_n h + 1) (hq : ρ' (am_n h) = q) (hE : am_cell ρ' α' h' (am_n h) = E) (ho : ∀ j, j < am_n h → ρ' j = ρ j ∧ am_cell ρ' α' h' j = am_cell ρ α h j) : am_ws ρ α h ++ [(q, E)] = am_ws ρ' α' h' := by
  apply List.ext_getElem?
  intro i
  rw [am_ws_get, hn]
  by_cases e : i < am_n h - 1
  · rw [List.getElem?_append_left (by rw [am_ws_len]; exact e), am_ws_get, if_pos e, if_pos (by omega), (ho (i + 1) (by omega)).1, (ho (i + 1) (by omega)).2]
  · rw [List.getElem?_append_right (by rw [am_ws_len]; omega), am_ws_len]
    by_cases e2 : i = am_n h - 1
    · subst e2
      rw [Nat.sub_self, if_pos (by omega), show am_n h - 1 + 1 = am_n h by omega, hq, hE]; rfl
    · rw [if_neg (by omega)]
      exact List.getElem?_eq_none (by simp; omega)
theorem am_fs_get {ρ : Nat → Nat} {h : am_H} {k c j : Nat} (hj : j < am_nf c) : (am_fs ρ h k c)[j]? = some (am_cv ρ (am_gv h k c j)) := by
  unfold am_fs
  rw [List.getElem?_map, List.getElem?_range hj]; rfl
theorem am_fs_len {ρ : Nat → Nat} {h : am_H} {k c : Nat} : (am_fs ρ h k c).length = am_nf c := by unfold am_fs; simp
theorem am_fs_set {ρ : Nat → Nat} {h h' : am_H} {k c j : Nat} {v : Value} (hj : j < am_nf c) (h1 : am_gv h' k c j = v) (ho : ∀ b, b ≠ j → am_gv h' k c b = am_gv h k c b) : (am_fs ρ h k c).set j (am_cv ρ v) = am_fs ρ h' k c := by
  apply List.ext_getElem?
  intro i
  rw [List.getElem?_set, am_fs_len]
  by_cases e : j = i
  · subst e
    rw [if_pos rfl, if_pos hj, am_fs_get hj, h1]
  · rw [if_neg e]
    by_cases e2 : i < am_nf c
    · rw [am_fs_get e2, am_fs_get e2, ho i (Ne.symm e)]
    · rw [List.getElem?_eq_none (by rw [am_fs_len]; omega), List.getElem?_eq_none (by rw [am_fs_len]; omega)]
theorem am_I_w {h : am_H} {a j : Nat} {x : Int32} {k b : Nat} : am_I (am_wI h a j x) k b = if k = a then (if b = j then x else am_I h k b) else am_I h k b := rfl
theorem am_P_w {h : am_H} {a j : Nat} {x : Option Nat} {k b : Nat} : am_P (am_wP h a j x) k b = if k = a then (if b = j then x else am_P h k b) else am_P h k b := rfl
theorem am_cell_wI {ρ : Nat → Nat} {α : Nat → ClassId} {h : am_H} {a j : Nat} {x : Int32} {k : Nat} (hk : k ≠ a) : am_cell ρ α (am_wI h a j x) k = am_cell ρ α h k := by
  have e : am_I (am_wI h a j x) k = am_I h k := by funext b; rw [am_I_w, if_neg hk]
  have e2 : ∀ c, am_fs ρ (am_wI h a j x) k c = am_fs ρ h k c := fun c => by
    unfold am_fs am_gv; rw [e]; rfl
  unfold am_cell
  rw [e]
  simp only [e2]
  rfl
theorem am_cell_wR {ρ : Nat → Nat} {α : Nat → ClassId} {h : am_H} {a : Nat} {r : Nat → Int32} {k : Nat} (hk : k ≠ a) : am_cell ρ α (am_wR h a r) k = am_cell ρ α h k := by
  have e : am_I (am_wR h a r) k = am_I h k := by
    funext b
    show (if k = a then _ else _) = _
    rw [if_neg hk]; rfl
  have e2 : ∀ c, am_fs ρ (am_wR h a r) k c = am_fs ρ h k c := fun c => by
    unfold am_fs am_gv; rw [e]; rfl
  unfold am_cell
  rw [e]
  simp only [e2]
  rfl
theorem am_cell_wP {ρ : Nat → Nat} {α : Nat → ClassId} {h : am_H} {a j : Nat} {x : Option Nat} {k : Nat} (hk : k ≠ a) : am_cell ρ α (am_wP h a j x) k = am_cell ρ α h k := by
  have e : am_P (am_wP h a j x) k = am_P h k := by funext b; rw [am_P_w, if_neg hk]
  have e2 : ∀ c, am_fs ρ (am_wP h a j x) k c = am_fs ρ h k c := fun c => by
    unfold am_fs am_gv; rw [e]; rfl
  unfold am_cell
  rw [e]
  simp only [e2]
  rfl
theorem am_cell_new {ρ ρ' : Nat → Nat} {α α' : Nat → ClassId} {h : am_H} {z : am_S} {w : Nat} {k : Nat} (hh : am_vh h) (hk : k < am_n h) (hρ : ∀ j, j < am_n h → ρ' j = ρ j) (hα : α' k = α k) : am_cell ρ' α' (am_new h z w) k = am_cell ρ α h k := by
  have n1 : ¬ k = h.1 := Nat.ne_of_lt hk
  have e0 : am_sh (am_new h z w) k = am_sh h k := if_neg n1
  have e1 : am_I (am_new h z w) k = am_I h k := funext fun b => if_neg n1
  have e2 : am_P (am_new h z w) k = am_P h k := funext fun b => if_neg n1
  have e3 : ∀ b, (am_P h k b).map ρ' = (am_P h k b).map ρ := fun b => by
    cases eq : am_P h k b with
    | none => rfl
    | some q => show some _ = some _; rw [hρ q (hh.2 _ _ q eq)]
  have e4 : ∀ c, am_fs ρ' (am_new h z w) k c = am_fs ρ h k c := fun c => by
    unfold am_fs
    refine List.map_congr_left (fun b _ => ?_)
    unfold am_gv
    rw [e1, e2]
    split
    · rw [am_cv_rf, am_cv_rf, e3]
    · split <;> rfl
  unfold am_cell
  rw [e0, e1, e2, hα]
  simp only [e3, e4]
/-- the world: the cells of the abstract heap stand in the machine's heap -/
def am_V (D : va_G) (A : Nat → Prop) (U : State) (h : am_H) (ρ : Nat → Nat) (α : Nat → ClassId) (H : Heap) : Prop :=
  ∃ tys, va_K D am_cl tys U ∧ (∀ k, 0 < k → k < am_n h → ¬ (am_sh h k).1 = 0 → ∃ t : Nat, tys[t]? = some (α k, am_et (am_sh h k))) ∧ va_P D am_cl (am_ws ρ α h) H ∧ va_D A (am_ws ρ α h)
def am_N (s : State) : Prop := (∀ q ∈ am_nfl, va_Nw (.fieldLinkNest q.1 q.2.1 q.2.2.1 q.2.2.2.1 q.2.2.2.2.1 q.2.2.2.2.2) s) ∧ (∀ q ∈ am_nml, va_Nw (.methodLinkNest q.1 q.2.1 q.2.2.1 q.2.2.2) s) ∧ ∀ C ∈ am_ao, va_AO C s
def am_F (p : Program) (s : State) (m : MethodId) (args : Array Value) (meth : Method) (c : Code) (A : Nat → Prop) (mi : Nat) : Prop :=
  p.tables.exec = Jvm.exec ∧ c.code = am_cc mi ∧ c.maxLocals = am_ml mi ∧ meth.sig.returnType = am_rt mi ∧ s.vm.findClass (am_y mi).cls = some m.cls ∧ (∀ w ∈ am_G, w.before args s = true) ∧ am_N s ∧ meth.locks = false ∧ ((am_y mi).name = "<init>" → meth.name = "<init>") ∧ ∀ q, s.heap.size ≤ q → A q
/-- the law alone sees the script -/
def am_sc (s : State) (A : Nat → Prop) (mi : Nat) (h : am_H) (ρ : Nat → Nat) : Prop := mi = 0 → ∃ (b L : Nat) (xs : Nat → Int32), va_X b L xs s s.heap ∧ b < s.heap.size ∧ ¬ A b ∧ ρ 0 = b ∧ (am_sh h 0).2.2 = L ∧ am_I h 0 = xs
def am_dc (mi pc : Nat) (i : Instr) (len nx : Nat) : Prop := decode (am_cc mi) pc = .ok (i, len) ∧ nx = pc + len
def am_okf (mi pc cf nx : Nat) (g : Nat → Instr) (put : Prop) : Prop := ∃ (C : String) (T : u_T) (N idx : Nat), am_cl[cf / 64]? = some (C, T, N) ∧ am_dc mi pc (g idx) 3 nx ∧
  ((Jvm.Cond.fieldLink (am_y mi).cls idx (T (cf % 64)).1 (T (cf % 64)).2.1 (T (cf % 64)).2.2.1 ∈ am_G ∧ (put → (T (cf % 64)).2.2.2 = false ∨ ((T (cf % 64)).2.2.2 = true ∧ (am_y mi).name = "<init>" ∧ (T (cf % 64)).1 = (am_y mi).cls))) ∨
   ∃ host, ((am_y mi).cls, idx, (T (cf % 64)).1, (T (cf % 64)).2.1, (T (cf % 64)).2.2.1, host) ∈ am_nfl ∧ (put → (T (cf % 64)).2.2.2 = false))
/-- how a method is called: 0 virtual, 1 static, 2 special; nest mates by am_nml -/
def am_okc (mi pc k nx : Nat) : Prop := 0 < k ∧ k < am_M.length ∧ nx = pc + 3 ∧ ∃ idx : Nat,
  ((Jvm.Cond.methodLink (am_y mi).cls idx (am_y k) ∈ am_G) ∨ ∃ host, ((am_y mi).cls, idx, am_y k, host) ∈ am_nml) ∧
  ((decode (am_cc mi) pc = .ok (.invokevirtual idx, 3) ∧ Jvm.Cond.instanceMethod (am_y k) ∈ am_G ∧ Jvm.Cond.selects (am_y k).cls (am_y k) (am_y k) ∈ am_G ∧ ∃ c, am_rc k = some c ∧ am_cn c = (am_y k).cls ∧ c < am_cl.length) ∨
   (decode (am_cc mi) pc = .ok (.invokestatic idx, 3) ∧ Jvm.Cond.static (am_y k) ∈ am_G ∧ am_rc k = none) ∨
   (decode (am_cc mi) pc = .ok (.invokespecial idx, 3) ∧ (am_y k).name = "<init>" ∧ Jvm.Cond.instanceMethod (am_y k) ∈ am_G ∧ am_rt k = none ∧ ∃ c, am_rc k = some c))
/-- what stands behind a resolved instruction -/
def am_ok (mi pc : Nat) (i : Instr) (nx : Nat) : Prop := match i with
  | .bipush k => am_dc mi pc (.iconst k) 1 nx ∨ (am_dc mi pc (.bipush k) 2 nx ∧ (Int8.ofInt k).toInt32 = Int32.ofInt k) ∨ (am_dc mi pc (.sipush k) 3 nx ∧ (Int16.ofInt k).toInt32 = Int32.ofInt k) ∨ ∃ x, am_dc mi pc (.ldc x) 2 nx ∧ Jvm.Cond.constant (am_y mi).cls x (Int32.ofInt k) ∈ am_G
  | .sipush k => (∃ f : Fin 2, am_dc mi pc (.lconst f) 1 nx ∧ Int64.ofNat f.val = Int64.ofInt k) ∨ ∃ x, am_dc mi pc (.ldc2_w x) 3 nx ∧ Jvm.Cond.constantLong (am_y mi).cls x (Int64.ofInt k) ∈ am_G
  | .iload k => (∃ f : Fin 4, am_dc mi pc (.iload_n f) 1 nx ∧ f.val = k) ∨ am_dc mi pc (.iload k) 2 nx
  | .lload k => (∃ f : Fin 4, am_dc mi pc (.lload_n f) 1 nx ∧ f.val = k) ∨ am_dc mi pc (.lload k) 2 nx
  | .aload k => (∃ f : Fin 4, am_dc mi pc (.aload_n f) 1 nx ∧ f.val = k) ∨ am_dc mi pc (.aload k) 2 nx
  | .istore k => (∃ f : Fin 4, am_dc mi pc (.istore_n f) 1 nx ∧ f.val = k) ∨ am_dc mi pc (.istore k) 2 nx
  | .lstore k => (∃ f : Fin 4, am_dc mi pc (.lstore_n f) 1 nx ∧ f.val = k) ∨ am_dc mi pc (.lstore k) 2 nx
  | .astore k => (∃ f : Fin 4, am_dc mi pc (.astore_n f) 1 nx ∧ f.val = k) ∨ am_dc mi pc (.astore k) 2 nx
  | .iinc k n => am_dc mi pc (.iinc k n) 3 nx
  | .ifCond c t => ∃ off, am_dc mi pc (.ifCond c off) 3 nx ∧ (pc : Int) + off = (t.toNat : Int)
  | .if_icmp c t => ∃ off, am_dc mi pc (.if_icmp c off) 3 nx ∧ (pc : Int) + off = (t.toNat : Int)
  | .goto t => ∃ off, am_dc mi pc (.goto off) 3 nx ∧ (pc : Int) + off = (t.toNat : Int)
  | .ifnull t => ∃ off, am_dc mi pc (.ifnull off) 3 nx ∧ (pc : Int) + off = (t.toNat : Int)
  | .ifnonnull t => ∃ off, am_dc mi pc (.ifnonnull off) 3 nx ∧ (pc : Int) + off = (t.toNat : Int)
  | .tableswitch dt lo hi ts => ∃ (d0 : Int) (offs : Array Int) (len : Nat), am_dc mi pc (.tableswitch d0 lo hi offs) len nx ∧ (pc : Int) + d0 = (dt.toNat : Int) ∧ ∀ (j : Nat) (t : Int), ts[j]? = some t → ∃ o, offs[j]? = some o ∧ (pc : Int) + o = (t.toNat : Int)
  | .getfield cf => am_okf mi pc cf nx Instr.getfield False
  | .putfield cf => am_okf mi pc cf nx Instr.putfield True
  | .newarray t => am_dc mi pc (.newarray t) 2 nx ∧ Jvm.Cond.arrayClass (newarray.typeOf t) ∈ am_G
  | .anewarray c => ∃ idx, am_dc mi pc (.anewarray idx) 3 nx ∧ Jvm.Cond.classLink (am_y mi).cls idx (am_cn c) ∈ am_G ∧ am_cn c ∈ am_ao
  | .new c => ∃ idx, am_dc mi pc (.new idx) 3 nx ∧ c < am_cl.length ∧ Jvm.Cond.classLink (am_y mi).cls idx (am_cn c) ∈ am_G
  | .caload => am_dc mi pc .iaload 1 nx ∧ mi = 0
  | .saload => am_dc mi pc .arraylength 1 nx ∧ mi = 0
  | .monitorenter => ∃ idx, am_dc mi pc (.invokespecial idx) 3 nx ∧ Jvm.Cond.methodLink (am_y mi).cls idx Lib.objectInit ∈ am_G ∧ Jvm.Cond.instanceMethod Lib.objectInit ∈ am_G ∧ Jvm.Cond.code Lib.objectInit ⟨#[0xb1]⟩ 1 none ∈ am_G
  | .dadd => ∃ idx, am_dc mi pc (.invokestatic idx) 3 nx ∧ Jvm.Cond.methodLink (am_y mi).cls idx Lib.Math.min.name ∈ am_G ∧ Jvm.Cond.static Lib.Math.min.name ∈ am_G ∧ Jvm.Cond.initialized "java/lang/Math" ∈ am_G ∧ Jvm.Cond.code Lib.Math.min.name Lib.Math.min.code 2 (some .int) ∈ am_G
  | .dsub => ∃ idx, am_dc mi pc (.invokestatic idx) 3 nx ∧ Jvm.Cond.methodLink (am_y mi).cls idx arraycopyName ∈ am_G ∧ Jvm.Cond.native arraycopyName ∈ am_G ∧ Jvm.Cond.static arraycopyName ∈ am_G ∧ Jvm.Cond.initialized "java/lang/System" ∈ am_G
  | .invokestatic k => am_okc mi pc k nx
  | i => am_dc mi pc i 1 nx
/-- what the tables say of a class -/
def am_OC1 (c : Nat) (C : String) (T : u_T) (N : Nat) : Prop := (∀ w ∈ u_ws C T N, w ∈ am_G) ∧ (∀ k, k < N → parseFieldDescriptor (T k).2.2.1 = some (am_ty c k)) ∧ (∀ a, a < N → ∀ b, b < N → a ≠ b → (T a).2.1 ≠ (T b).2.1) ∧ Jvm.Cond.instantiable C N ∈ am_G ∧ Jvm.Cond.initialized C ∈ am_G ∧ ∀ k, k < N → defaultValue (am_ty c k) = if am_rf c k = true then .null else if am_lg c k = true then .long 0 else .int 0
def am_OC : Prop := ∀ (c : Nat) (C : String) (T : u_T) (N : Nat), am_cl[c]? = some (C, T, N) → am_OC1 c C T N
/-- .. of a method -/
def am_OM1 (k : Nat) : Prop := Jvm.Cond.code (am_y k) (am_cc k) (am_ml k) (am_rt k) ∈ am_G ∧ plainName (am_y k).cls = true ∧ Jvm.Cond.initialized (am_y k).cls ∈ am_G ∧ ((am_y k).cls ≠ "java/lang/invoke/MethodHandle" ∧ (am_y k).cls ≠ "java/lang/invoke/VarHandle") ∧ (∃ n, (parseMethodDescriptor (am_y k).desc).map (fun d => d.parameters.length) = some n ∧ am_na k = (match am_rc k with | none => n | some _ => n + 1))
def am_OM : Prop := ∀ k, 0 < k → k < am_M.length → am_OM1 k
def am_OK : Prop := ∀ mi pc i nx, am_at mi pc = some (i, nx) → am_ok mi pc i nx
