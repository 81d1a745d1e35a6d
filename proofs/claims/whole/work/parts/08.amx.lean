/-! Calls, and the whole: a run of the abstract machine is a run of the machine. -/
def am_wd (k : Nat) : List Jvm.Cond := Jvm.Cond.code (am_y k) (am_cc k) (am_ml k) (am_rt k) :: am_G
theorem am_good {w : Jvm.Cond} (h : w ∈ am_G) : (w.onTables && w.keeps) = true ∨ ∃ ty, w = .arrayClass ty := good_of_word (List.mem_filter.mp h).2
theorem am_gi {k : Nat} (h : Jvm.Cond.code (am_y k) (am_cc k) (am_ml k) (am_rt k) ∈ am_G) : GoodIn am_G (am_wd k) := fun w hw => by
  rcases List.mem_cons.mp hw with rfl | hw
  · exact ⟨h, am_good h⟩
  · exact ⟨hw, am_good hw⟩
theorem am_V_moved {D : va_G} {A : Nat → Prop} {s t : State} {h : am_H} {ρ : Nat → Nat} {α : Nat → ClassId} {H : Heap} (hvm : s.vm.Alike t.vm) (hV : am_V D A s h ρ α H) : am_V D A t h ρ α H := by
  obtain ⟨tys, a1, a2⟩ := hV
  exact ⟨tys, va_K.moved hvm a1, a2⟩
theorem am_V_weak {D : va_G} {A B : Nat → Prop} {s : State} {h : am_H} {ρ : Nat → Nat} {α : Nat → ClassId} {H : Heap} (hAB : ∀ q, A q → B q) (hV : am_V D A s h ρ α H) : am_V D B s h ρ α H := by
  obtain ⟨tys, a1, a2, a3, a4⟩ := hV
  exact ⟨tys, a1, a2, a3, a4.weaken (fun _ q _ hq => hAB q.1 hq)⟩
theorem am_N_warm {s U : State} (hW : s.WarmedH U.vm) (h : am_N s) : am_N U := ⟨fun q hq => va_Nw.warmF hW (h.1 q hq), fun q hq => va_Nw.warmM hW (h.2.1 q hq), fun C hC => va_AO.moved hW.alike (h.2.2 C hC)⟩
theorem am_N_same {s U : State} (hv : s.vm = U.vm) (h : am_N s) : am_N U := ⟨fun q hq => va_Nw.same rfl hv (h.1 q hq), fun q hq => va_Nw.same rfl hv (h.2.1 q hq), fun C hC => va_AO.moved (by rw [← hv]; exact Vm.Alike.refl s.vm) (h.2.2 C hC)⟩
def am_Q (D : va_G) (A : Nat → Prop) (h h1 : am_H) (ρ : Nat → Nat) (r : Option Value) : Array Value → State → Outcome → State → Prop := fun _ st oc t => (∃ (ρ' : Nat → Nat) (α' : Nat → ClassId), oc = .returned (r.map (am_cv ρ')) ∧ (∀ k, k < am_n h → ρ' k = ρ k) ∧ am_V D A t h1 ρ' α' t.heap) ∧ va_F A st t
section AMX
variable {p : Program} {l : Launch} {e : Env} {R : Room} {s : State} {m : MethodId} {args : Array Value} {below : List Frame} {meth : Method} {c : Code} {H : Heap} {locs : List Loc} {cells slots : Nat} {Q : State → Prop} {D : va_G} {ρ : Nat → Nat} {ls : Array Slot}
theorem am_call {h h1 : am_H} {r : Option Value} {A0 A1 : Nat → Prop} {H0 : Heap} {pc mc ms : Nat} {st0 rest : List Value} {a : Array Value} {free : Addr → Prop} (hr : va_Run p l e R s m args below meth c H locs cells slots mc ms (F0 m pc ls st0) rest (am_Q D A1 h h1 ρ r a) free) (hS : va_S A0 H0 H locs) (hA : ∀ q, q < H.size → A1 q → A0 q) (hf : ∀ q, free q → A0 q)
    (kk : ∀ (ρ' : Nat → Nat) (α' : Nat → ClassId) (t : State) (locs1 : List Loc), s.vm.Alike t.vm → (∀ k, k < am_n h → ρ' k = ρ k) → am_V D A1 t h1 ρ' α' t.heap → va_S A0 H0 t.heap locs1 → W p l e R s m args below meth c t.heap locs1 (cells + mc) (slots + ms) Q (F0 m (pc + 3) ls ((r.map (am_cv ρ')).toList ++ rest))) : W p l e R s m args below meth c H locs cells slots Q (F0 m pc ls st0) := by
  intro T hT X
  obtain ⟨v, s0, t, T', L1, h0, X', hL, e1, e2, ⟨⟨ρ', α', hv, hρ, hV⟩, hz, hk⟩, st⟩ := hr T hT X
  cases hv
  rw [h0] at hz hk
  have hS1 : va_S A0 H0 t.heap (locs ++ L1) := by
    refine ⟨Nat.le_trans hS.1 hz, fun q h1 h2 => ?_, fun q hq => ?_⟩
    · have h3 := Nat.lt_of_lt_of_le h1 hS.1
      exact (hk q h3 (fun z => h2 (hA q h3 z))).trans (hS.2.1 q h1 h2)
    · rcases List.mem_append.mp hq with g | g
      · exact hS.2.2 q g
      · exact hf _ (hL q g)
  obtain ⟨t2, a1, b1⟩ := kk ρ' α' t (locs ++ L1) (by rw [← e2]; exact X'.warmed.alike) hρ hV hS1 T' e1 X'
  exact ⟨t2, st t2 a1, b1⟩
end AMX
theorem am_es_len {ρ : Nat → Nat} : ∀ As : List Value, (lg_sl (As.map (am_cv ρ))).length = (am_es As).length := by
  intro As
  induction As with
  | nil => rfl
  | cons w As ih =>
    have e1 : lg_sl ((w :: As).map (am_cv ρ)) = (if (am_cv ρ w).category = 2 then [.val (am_cv ρ w), .second] else [.val (am_cv ρ w)]) ++ lg_sl (As.map (am_cv ρ)) := rfl
    have e2 : am_es (w :: As) = (if w.category = 2 then [some w, none] else [some w]) ++ am_es As := rfl
    rw [e1, e2, List.length_append, List.length_append, ih, am_cv_cat]
    split <;> rfl
theorem am_en_args {ρ : Nat → Nat} {N : Nat} : ∀ (As : List Value) (i0 j : Nat) (v : Value), (am_es As ++ List.replicate N none)[j]? = some (some v) → (i0 + j, am_cv ρ v) ∈ lv_args i0 (As.map (am_cv ρ)) := by
  intro As
  induction As with
  | nil =>
    intro i0 j v h
    have hm := List.mem_of_getElem? h
    exact absurd (List.mem_replicate.mp hm).2 (by simp)
  | cons w As ih =>
    intro i0 j v h
    have e2 : am_es (w :: As) = (if w.category = 2 then [some w, none] else [some w]) ++ am_es As := rfl
    have e3 : lv_args i0 ((w :: As).map (am_cv ρ)) = (i0, am_cv ρ w) :: lv_args (if (am_cv ρ w).category = 2 then i0 + 2 else i0 + 1) (As.map (am_cv ρ)) := rfl
    rw [e2, List.append_assoc] at h
    rw [e3, am_cv_cat]
    split at h
    · rename_i hc
      rw [if_pos hc]
      match j, h with
      | 0, h =>
        have : w = v := by simpa using h
        subst this
        exact List.mem_cons_self
      | 1, h => exact absurd h (by simp)
      | j + 2, h =>
        have h2 : (am_es As ++ List.replicate N none)[j]? = some (some v) := by simpa using h
        have g := ih (i0 + 2) j v h2
        rw [show i0 + (j + 2) = i0 + 2 + j by omega]
        exact List.mem_cons_of_mem _ g
    · rename_i hc
      rw [if_neg hc]
      match j, h with
      | 0, h =>
        have : w = v := by simpa using h
        subst this
        exact List.mem_cons_self
      | j + 1, h =>
        have h2 : (am_es As ++ List.replicate N none)[j]? = some (some v) := by simpa using h
        have g := ih (i0 + 1) j v h2
        rw [show i0 + (j + 1) = i0 + 1 + j by omega]
        exact List.mem_cons_of_mem _ g
theorem am_ret_c {rt : Option FieldType} {i : Instr} {st : List Value} {r : Option Value} (h : am_ret rt i st = some r) : (i = .return_ ∧ rt = none ∧ st = [] ∧ r = none) ∨ (∃ v, i = .ireturn ∧ (rt = some .int ∨ (rt = some .boolean ∧ v &&& 1 = v)) ∧ st = [.int v] ∧ r = some (.int v)) ∨ (∃ v, i = .lreturn ∧ rt = some .long ∧ st = [.long v] ∧ r = some (.long v)) ∨ (∃ C o, i = .areturn ∧ rt = some (.object C) ∧ st = [va_rf o] ∧ r = some (va_rf o)) := by
  unfold am_ret at h
  split at h
  · split at h
    · cases h; exact Or.inl ⟨rfl, rfl, rfl, rfl⟩
    · cases h
  · split at h
    · cases h; exact Or.inr (Or.inl ⟨_, rfl, Or.inl rfl, rfl, rfl⟩)
    · split at h
      · rename_i hv; cases h; exact Or.inr (Or.inl ⟨_, rfl, Or.inr ⟨rfl, hv⟩, rfl, rfl⟩)
      · cases h
    · cases h
  · split at h
    · cases h; exact Or.inr (Or.inr (Or.inl ⟨_, rfl, rfl, rfl, rfl⟩))
    · cases h
  · split at h
    · cases h; exact Or.inr (Or.inr (Or.inr ⟨_, some _, rfl, rfl, rfl, rfl⟩))
    · cases h; exact Or.inr (Or.inr (Or.inr ⟨_, none, rfl, rfl, rfl, rfl⟩))
    · cases h
  · cases h
def am_Sound (n : Nat) : Prop := ∀ (d : am_D) (mi pc : Nat) (L : am_L) (st : List Value) (h : am_H) (r : Option Value) (h' : am_H), am_ex n d mi pc L st h = some (r, h') → am_vs h L st →
  ∀ (p : Program) (l : Launch) (e : Env) (R : Room) (s : State) (m : MethodId) (args : Array Value) (below : List Frame) (meth : Method) (c : Code) (A : Nat → Prop) (D : va_G) (Q : State → Prop) (mc ms : Nat), am_F p s m args meth c A mi → d.1 ≤ R.frames → d.2 ≤ R.locals → mc ≤ R.cells → ms ≤ R.slots →
  ∀ (ρ : Nat → Nat) (α : Nat → ClassId) (H : Heap) (locs : List Loc) (ls : Array Slot) (cells slots : Nat), am_V D A s h ρ α H → va_S A s.heap H locs → am_sc s A mi h ρ → am_lr ρ L ls (am_ml mi) → cells + am_n h' = mc + am_n h → slots + am_sl h' = ms + am_sl h →
  (∀ (pc' : Nat) (i : Instr) (nx : Nat) (st' : List Value) (ρ' : Nat → Nat) (α' : Nat → ClassId) (H' : Heap) (locs' : List Loc) (ls' : Array Slot), am_at mi pc' = some (i, nx) → am_ret (am_rt mi) i st' = some r → (∀ k, k < am_n h → ρ' k = ρ k) → am_V D A s h' ρ' α' H' → va_S A s.heap H' locs' → W p l e R s m args below meth c H' locs' mc ms Q (F0 m pc' ls' (st'.map (am_cv ρ')))) →
  W p l e R s m args below meth c H locs cells slots Q (F0 m pc ls (st.map (am_cv ρ)))
set_option maxHeartbeats 1000000 in
theorem am_met {n k : Nat} {d : am_D} {As : List Value} {h h1 : am_H} {r : Option Value} (OK : am_OK) (OM : am_OM) (IH : am_Sound n) (hx : am_ex n d k 0 (am_en (am_ml k) As) [] h = some (r, h1)) (hv : am_vh h) (hvA : am_vt (am_n h) As) (hlen : (am_es As).length ≤ am_ml k) (hk0 : 0 < k) (hk : k < am_M.length) (l : Launch) (D : va_G) (ρ : Nat → Nat) (α : Nat → ClassId) (sz : Nat) :
    Met l (am_y k) (am_wd k) ({ frames := d.1, cells := am_n h1 - am_n h, slots := am_sl h1 - am_sl h, locals := d.2 }) (va_Pc (As.map (am_cv ρ)) (fun U => U.heap.size = sz ∧ am_N U ∧ am_V D (fun _ => True) U h ρ α U.heap)) (am_Q D (va_A (am_ws ρ α h) sz) h h1 ρ r) (am_n h1 - am_n h) (am_sl h1 - am_sl h) (va_A (am_ws ρ α h) sz) := by
  have om := OM k hk0 hk
  refine Met.ofW (cc := am_cc k) (maxL := am_ml k) (ret := am_rt k) om.2.1 rfl ?_
  intro p e s m args below meth c s₁ B hml hpc
  obtain ⟨rfl, hsz, hN, hV0⟩ := hpc
  have hts := atoms_spec (ws := am_wd k) B.pre
  have hown : s.vm.findClass (am_y k).cls = some m.cls := findClass_of_methodNamed B.named
  have hnm : meth.name = (am_y k).name := (name_of_methodNamed B.named B.method).1
  have hlocks : meth.locks = false := B.notSynchronized
  subst hsz
  have hV : am_V D (va_A (am_ws ρ α h) s.heap.size) s h ρ α s.heap := by
    obtain ⟨tys, a1, a2, a3, a4⟩ := hV0
    exact ⟨tys, a1, a2, a3, a4.self⟩
  have F : am_F p s m (As.map (am_cv ρ)).toArray meth c (va_A (am_ws ρ α h) s.heap.size) k := ⟨B.exec, B.bytes, hml, B.returns, hown, fun w hw => hts w (List.mem_cons_of_mem _ hw), hN, hlocks, fun z => hnm.trans z, fun q hq => Or.inr hq⟩
  have hl := lv_entry (As.map (am_cv ρ)) (n := am_ml k) (by rw [am_es_len]; exact hlen)
  rw [lg_entry_eq]
  have hg := am_ex_v _ _ _ _ _ _ _ _ _ hx ⟨hv, am_en_v hvA, am_vt_0⟩
  have hg1 : am_n h ≤ am_n h1 := hg.2.2.1
  have hg2 : am_sl h ≤ am_sl h1 := hg.2.2.2.1
  refine IH d k 0 _ [] h r h1 hx ⟨hv, am_en_v hvA, am_vt_0⟩ p l e _ s m _ below meth c _ D _ (am_n h1 - am_n h) (am_sl h1 - am_sl h) F (Nat.le_refl _) (Nat.le_refl _) (Nat.le_refl _) (Nat.le_refl _) ρ α s.heap [] _ 0 0 hV va_S.rf (fun z => absurd z (Nat.ne_of_gt hk0)) ⟨⟨hl.1, hl.2.1, fun q hq => ?_⟩, am_en_len hlen⟩ (by omega) (by omega) ?_
  · obtain ⟨v, e1, e2⟩ := am_kn_m.mp hq
    have g := am_en_args (ρ := ρ) As 0 q.1 v e1
    rw [Nat.zero_add, ← e2] at g
    exact hl.2.2 q g
  · intro pc' i nx st' ρ' α' H' locs' ls' hat hret hρ hV' hS'
    have ok := OK _ _ _ _ hat
    have hq : ∀ t : State, t.heap = H' → s.WarmedH t.vm → am_Q D (va_A (am_ws ρ α h) s.heap.size) h h1 ρ r (As.map (am_cv ρ)).toArray s (.returned (r.map (am_cv ρ'))) t := fun t ht hW => ⟨⟨ρ', α', rfl, hρ, by rw [ht]; exact am_V_moved hW.alike hV'⟩, hS'.F ht⟩
    rcases am_ret_c hret with ⟨rfl, hrt, rfl, rfl⟩ | ⟨v, rfl, hrt, rfl, rfl⟩ | ⟨v, rfl, hrt, rfl, rfl⟩ | ⟨C, o, rfl, hrt, rfl, rfl⟩
    · exact W.vret B.exec B.bytes (B.returns.trans hrt) hq hS'.2.2 ok.1
    · rcases hrt with hrt | ⟨hrt, hv1⟩
      · exact W.zret B.exec B.bytes (B.returns.trans hrt) rfl hq hS'.2.2 ok.1
      · exact W.zret B.exec B.bytes (B.returns.trans hrt) (congrArg Value.int hv1) hq hS'.2.2 ok.1
    · exact W.lret B.exec B.bytes (B.returns.trans hrt) hq hS'.2.2 ok.1
    · rw [List.map_cons, am_cv_rf]
      refine W.aret B.exec B.bytes (B.returns.trans hrt) (Or.inl ⟨C, rfl⟩) (by cases o with | none => exact Or.inl rfl | some q => exact Or.inr ⟨_, rfl⟩) (fun t ht hW => ?_) hS'.2.2 ok.1
      have g := hq t ht hW
      rw [Option.map_some, am_cv_rf] at g
      exact g
theorem am_cal_s {i : Instr} {k : Nat} (h : am_cal i = some k) : i = .invokestatic k := by
  unfold am_cal at h
  split at h
  · cases h; rfl
  · cases h
section AMY
variable {p : Program} {l : Launch} {e : Env} {R : Room} {s : State} {m : MethodId} {args : Array Value} {below : List Frame} {meth : Method} {c : Code} {H : Heap} {locs : List Loc} {cells slots : Nat} {D : va_G} {A : Nat → Prop} {ρ : Nat → Nat} {α : Nat → ClassId} {ls : Array Slot}
set_option maxHeartbeats 1000000 in
theorem am_run {mi pc k nx : Nat} {d : am_D} {h h1 : am_H} {r : Option Value} {st : List Value} (OM : am_OM) (F : am_F p s m args meth c A mi) (hok : am_okc mi pc k nx) (hcx : am_cx k st h) (hd : d.1 + 1 ≤ R.frames) (hlo : 19 + am_ml k + d.2 ≤ R.locals) (hsz : ls.size = am_ml mi) (hV : am_V D A s h ρ α H)
    (hM : Met l (am_y k) (am_wd k) ({ frames := d.1, cells := am_n h1 - am_n h, slots := am_sl h1 - am_sl h, locals := d.2 }) (va_Pc ((st.take (am_na k)).reverse.map (am_cv ρ)) (fun U => U.heap.size = H.size ∧ am_N U ∧ am_V D (fun _ => True) U h ρ α U.heap)) (am_Q D (va_A (am_ws ρ α h) H.size) h h1 ρ r) (am_n h1 - am_n h) (am_sl h1 - am_sl h) (va_A (am_ws ρ α h) H.size))
    (hf : cells + (am_n h1 - am_n h) ≤ R.cells ∧ slots + (am_sl h1 - am_sl h) ≤ R.slots) :
    va_Run p l e R s m args below meth c H locs cells slots (am_n h1 - am_n h) (am_sl h1 - am_sl h) (F0 m pc ls (st.map (am_cv ρ))) ((st.drop (am_na k)).map (am_cv ρ)) (am_Q D (va_A (am_ws ρ α h) H.size) h h1 ρ r ((st.take (am_na k)).reverse.map (am_cv ρ)).toArray) (va_A (am_ws ρ α h) H.size) := by
  obtain ⟨hx, hb, hml, hr, hown, hts, hNs, hlk, hnm, hA⟩ := F
  obtain ⟨hk0, hk, -, idx, hlink, hkind⟩ := hok
  obtain ⟨om1, om2, om3, om4, ⟨n, hn1, hn2⟩⟩ := OM k hk0 hk
  obtain ⟨hc1, hc2, hc3, hc4⟩ := hcx
  have hgi := am_gi om1
  have hR : d.1 + 1 ≤ R.frames ∧ 8 + (am_ml k + 11) + d.2 ≤ R.locals := ⟨hd, by omega⟩
  have hsum : (((st.drop (am_na k)).map (am_cv ρ)).map fun v => v.category).sum ≤ 8 := by rw [am_cs_sum]; exact hc2
  have hst : st = (st.take (am_na k)).reverse.reverse ++ st.drop (am_na k) := by rw [List.reverse_reverse, List.take_append_drop]
  have hlenA : (st.take (am_na k)).reverse.length = am_na k := by rw [List.length_reverse, List.length_take]; omega
  have hbl : FrameBlind (va_Pc ((st.take (am_na k)).reverse.map (am_cv ρ)) (fun U => U.heap.size = H.size ∧ am_N U ∧ am_V D (fun _ => True) U h ρ α U.heap)) := fun a U g mk q => by
    obtain ⟨q0, q1, qN, qV⟩ := q
    exact ⟨q0, q1, am_N_same rfl qN, am_V_moved (t := U.calling g mk a) (Vm.Alike.refl U.vm) qV⟩
  have hpre : ∀ U : State, U.heap = H → s.WarmedH U.vm → va_Pc ((st.take (am_na k)).reverse.map (am_cv ρ)) (fun U => U.heap.size = H.size ∧ am_N U ∧ am_V D (fun _ => True) U h ρ α U.heap) ((st.take (am_na k)).reverse.map (am_cv ρ)).toArray U := fun U hU hW => ⟨rfl, by rw [hU], am_N_warm hW hNs, by rw [hU]; exact am_V_moved hW.alike (am_V_weak (fun _ _ => trivial) hV)⟩
  have hG : (F0 m pc ls (st.map (am_cv ρ))).stack = st.map (am_cv ρ) := rfl
  have hroom : 2 * (F0 m pc ls (st.map (am_cv ρ))).monitorRoom + (((st.drop (am_na k)).map (am_cv ρ)).map fun v => v.category).sum ≤ 8 := lv_room hsum
  have hS : CallFix p m c (am_cc mi) (am_ml mi) s args am_G (am_y mi).cls := ⟨hx, hb, hml, hown, hts⟩
  generalize hAs : (st.take (am_na k)).reverse = As at *
  rcases hkind with ⟨hdc, w1, w2, cc, hrc, hcn, hcl⟩ | ⟨hdc, w1, hrc⟩ | ⟨hdc, hy, w1, hrt, cc, hrc⟩
  · -- virtual
    unfold am_rv at hc3
    rw [hrc] at hc3 hn2
    match As, hc3 with
    | .ref b :: As', hc3 =>
      have hc3 : am_ob h b cc := hc3
      have hn : (As'.map (am_cv ρ)).length = n := by
        have : (Value.ref b :: As').length = am_na k := hlenA
        rw [List.length_cons] at this
        rw [List.length_map]
        have h9 : am_na k = n + 1 := hn2
        omega
      have hstk : st.map (am_cv ρ) = (As'.map (am_cv ρ)).reverse ++ .ref (ρ b) :: (st.drop (am_na k)).map (am_cv ρ) := by
        conv => lhs; rw [hst]
        rw [List.map_append, List.reverse_cons, List.map_append, List.map_reverse, List.append_assoc]; rfl
      obtain ⟨tys, hK, hT, hP, hD⟩ := hV
      obtain ⟨q0, hq0⟩ : ∃ q, am_cl[cc]? = some q := ⟨_, List.getElem?_eq_getElem hcl⟩
      have hq1 : q0.1 = (am_y k).cls := by rw [← hcn]; unfold am_cn; rw [hq0]
      have hrecv := va_recv hK hP hq0 (am_ws_at (ρ := ρ) (α := α) hc3.1 hc3.2.1 (am_cell_0 (ρ := ρ) (α := α) hc3.2.2.1 hc3.2.2.2))
      rw [hq1] at hrecv
      rcases hlink with hw | ⟨host, hw⟩
      · exact va_runV (As := As'.map (am_cv ρ)) hS hM ⟨callB_of n hts hgi rfl rfl rfl (hts _ om3) (hts _ hw) ⟨om4.1, om4.2, hn1⟩ hR, hts _ w1, hts _ w2⟩ ⟨hbl, hrecv, hpre⟩ rfl hn hsz hstk hroom hdc hf
      · exact va_runVN (As := As'.map (am_cv ρ)) hS hM ⟨va_cnB n hts hgi rfl rfl rfl (hNs.2.1 _ hw) (hts _ om3) ⟨om4.1, om4.2, hn1⟩ hR, hts _ w1, hts _ w2⟩ ⟨hbl, hrecv, hpre⟩ rfl hn hsz hstk hroom hdc hf
  · -- static
    rw [hrc] at hn2
    have hn : (As.map (am_cv ρ)).length = n := by
      rw [List.length_map, hlenA]; exact hn2
    have hstk : st.map (am_cv ρ) = (As.map (am_cv ρ)).reverse ++ (st.drop (am_na k)).map (am_cv ρ) := by
      conv => lhs; rw [hst]
      rw [List.map_append, List.map_reverse]
    rcases hlink with hw | ⟨host, hw⟩
    · exact va_runS (As := As.map (am_cv ρ)) hS hM ⟨callB_of n hts hgi rfl rfl rfl (hts _ om3) (hts _ hw) ⟨om4.1, om4.2, hn1⟩ hR, hts _ w1⟩ ⟨hbl, hpre⟩ rfl hn hsz hstk hroom hdc hf
    · exact va_runSN (As := As.map (am_cv ρ)) hS hM ⟨va_cnB n hts hgi rfl rfl rfl (hNs.2.1 _ hw) (hts _ om3) ⟨om4.1, om4.2, hn1⟩ hR, hts _ w1, trivial⟩ ⟨hbl, hpre⟩ rfl hn hsz hstk hroom hdc hf
  · -- special
    unfold am_rv at hc3
    rw [hrc] at hc3 hn2
    match As, hc3 with
    | .ref b :: As', hc3 =>
      have hn : (As'.map (am_cv ρ)).length = n := by
        have : (Value.ref b :: As').length = am_na k := hlenA
        rw [List.length_cons] at this
        rw [List.length_map]
        have h9 : am_na k = n + 1 := hn2
        omega
      have hstk : st.map (am_cv ρ) = (As'.map (am_cv ρ)).reverse ++ .ref (ρ b) :: (st.drop (am_na k)).map (am_cv ρ) := by
        conv => lhs; rw [hst]
        rw [List.map_append, List.reverse_cons, List.map_append, List.map_reverse, List.append_assoc]; rfl
      have hwd : am_wd k = Jvm.Cond.code (am_y k) (am_cc k) (am_ml k) none :: am_G := by unfold am_wd; rw [hrt]
      rcases hlink with hw | ⟨host, hw⟩
      · exact va_runI (As := As'.map (am_cv ρ)) hS hM ⟨callB_of n hts hgi hwd rfl rfl (hts _ om3) (hts _ hw) ⟨om4.1, om4.2, hn1⟩ hR, hy, hts _ w1⟩ ⟨hbl, hpre⟩ rfl hn hsz hstk hroom hdc hf
      · exact va_runIN (As := As'.map (am_cv ρ)) hS hM ⟨va_cnB n hts hgi hwd rfl rfl (hNs.2.1 _ hw) (hts _ om3) ⟨om4.1, om4.2, hn1⟩ hR, hy, hts _ w1⟩ ⟨hbl, hpre⟩ rfl hn hsz hstk hroom hdc hf
end AMY
set_option maxHeartbeats 2000000 in
theorem am_sound (OK : am_OK) (OC : am_OC) (OM : am_OM) : ∀ n, am_Sound n := by
  intro n
  induction n with
  | zero =>
    intro d mi pc L st h r h' hx
    exact absurd hx (by unfold am_ex; simp)
  | succ n IH =>
    intro d mi pc L st h r h' hx hv p l e R s m args below meth c A D Q mc ms F hd hlo hmc hms ρ α H locs ls cells slots hV hS hsc hl hcc hss HR
    unfold am_ex at hx
    split at hx
    · cases hx
    · rename_i i nx hat
      have ok := OK _ _ _ _ hat
      split at hx
      · -- a call
        rename_i k hk
        obtain rfl := am_cal_s hk
        have okc : am_okc mi pc k nx := ok
        · obtain ⟨⟨hd1, hw1, hcx⟩, hx⟩ := am_oif_s hx
          split at hx
          · rename_i r1 h1 ee
            have tk := am_tk_v (k := am_na k) hv.2.2
            have hM := am_met OK OM IH ee hv.1 tk.1 hcx.2.2.2 okc.1 okc.2.1 l D ρ α H.size
            have g1 := am_ex_v _ _ _ _ _ _ _ _ _ ee ⟨hv.1, am_en_v tk.1, am_vt_0⟩
            have hv1 : am_vs h1 L (r1.toList ++ st.drop (am_na k)) := ⟨g1.1, am_vl_le hv.2.1 g1.2.2.1, am_vt_a g1.2.1 (am_vt_le tk.2 g1.2.2.1)⟩
            have g2 := am_ex_v _ _ _ _ _ _ _ _ _ hx hv1
            have a1 : am_n h ≤ am_n h1 := g1.2.2.1
            have a2 : am_sl h ≤ am_sl h1 := g1.2.2.2.1
            have a3 : am_n h1 ≤ am_n h' := g2.2.2.1
            have a4 : am_sl h1 ≤ am_sl h' := g2.2.2.2.1
            have hfree : ∀ q, va_A (am_ws ρ α h) H.size q → A q := fun q hq => by
              obtain ⟨tys, -, -, -, hD⟩ := hV
              rcases hq with ⟨j, E, hq⟩ | hq
              · exact hD.2 j (q, E) hq
              · exact F.2.2.2.2.2.2.2.2.2 q (Nat.le_trans hS.1 hq)
            have hnx : nx = pc + 3 := okc.2.2.1
            subst hnx
            refine am_call (am_run OM F okc hcx (by show d.1 - 1 + 1 ≤ R.frames; omega) (by show 19 + am_ml k + (d.2 - (19 + am_ml k)) ≤ R.locals; omega) hl.1.1 hV hM ⟨by omega, by omega⟩) hS (fun q _ hq => hfree q hq) hfree (fun ρ' α' t locs1 hvm hρ hV1 hS1 => ?_)
            have hV2 : am_V D A s h1 ρ' α' t.heap := am_V_moved hvm.symm (am_V_weak hfree hV1)
            have hsc1 : am_sc s A mi h1 ρ' := fun z => by
              obtain ⟨b, Ls, xs, b1, b2, b3, b4, b5, b6⟩ := hsc z
              exact ⟨b, Ls, xs, b1, b2, b3, by rw [hρ 0 hv.1.1]; exact b4, by rw [g1.2.2.2.2.1 0 hv.1.1]; exact b5, by rw [g1.2.2.2.2.2]; exact b6⟩
            have kk := IH _ mi _ L _ h1 r h' hx hv1 p l e R s m args below meth c A D Q mc ms F hd hlo hmc hms ρ' α' t.heap locs1 ls (cells + (am_n h1 - am_n h)) (slots + (am_sl h1 - am_sl h)) hV2 hS1 hsc1 (am_lr_eq hρ hv.2.1 hl) (by omega) (by omega) (fun pc' i nx st' ρ2 α2 H2 locs2 ls2 c1 c2 c3 c4 c5 => HR pc' i nx st' ρ2 α2 H2 locs2 ls2 c1 c2 (fun j hj => (c3 j (Nat.lt_of_lt_of_le hj a1)).trans (hρ j hj)) c4 c5)
            rw [List.map_append, am_cs_eq hρ tk.2, show r1.toList.map (am_cv ρ') = (r1.map (am_cv ρ')).toList by cases r1 <;> rfl] at kk
            exact kk
          · cases hx
      · split at hx
        · -- a return
          rename_i r0 hret
          cases hx
          obtain rfl : cells = mc := Nat.add_right_cancel hcc
          obtain rfl : slots = ms := Nat.add_right_cancel hss
          exact HR pc i nx st ρ α H locs ls hat hret (fun _ _ => rfl) hV hS
        · split at hx
          · rename_i q hone
            have g := am_one_v hone hv
            have g2 := am_ex_v _ _ _ _ _ _ _ _ _ hx g.1
            unfold am_one at hone
            split at hone
            · rename_i st' ha
              cases hone
              exact am_alu_s F ok ha (IH _ mi _ _ _ _ r h' hx g.1 p l e R s m args below meth c A D Q mc ms F hd hlo hmc hms ρ α H locs ls cells slots hV hS hsc hl hcc hss HR)
            · split at hone
              · rename_i q1 ha
                cases hone
                exact am_br_s F ok ha (IH _ mi _ _ _ _ r h' hx g.1 p l e R s m args below meth c A D Q mc ms F hd hlo hmc hms ρ α H locs ls cells slots hV hS hsc hl hcc hss HR)
              · split at hone
                · rename_i q1 ha
                  cases hone
                  exact am_lo_s F hl ok ha (fun ls' hl' => IH _ mi _ _ _ _ r h' hx g.1 p l e R s m args below meth c A D Q mc ms F hd hlo hmc hms ρ α H locs ls' cells slots hV hS hsc hl' hcc hss HR)
                · split at hone
                  · rename_i q1 ha
                    cases hone
                    have a1 : am_n h ≤ am_n q1.2 := g.2.1.1
                    have a2 : am_sl h ≤ am_sl q1.2 := g.2.1.2.1
                    have a3 : am_n q1.2 ≤ am_n h' := g2.2.2.1
                    have a4 : am_sl q1.2 ≤ am_sl h' := g2.2.2.2.1
                    refine am_me_s (cells' := cells + (am_n q1.2 - am_n h)) (slots' := slots + (am_sl q1.2 - am_sl h)) OC F ok ha hv.1 hv.2.2 hV hS hsc hd hlo hl.1.1 (by omega) (by omega) (by omega) (by omega) (fun ρ' α' H' locs' hρ hV1 hS1 => ?_)
                    have hsc1 : am_sc s A mi q1.2 ρ' := fun z => by
                      obtain ⟨b, Ls, xs, b1, b2, b3, b4, b5, b6⟩ := hsc z
                      exact ⟨b, Ls, xs, b1, b2, b3, by rw [hρ 0 hv.1.1]; exact b4, by rw [g.2.1.2.2.1 0 hv.1.1]; exact b5, by rw [g.2.1.2.2.2]; exact b6⟩
                    exact IH _ mi _ _ _ _ r h' hx g.1 p l e R s m args below meth c A D Q mc ms F hd hlo hmc hms ρ' α' H' locs' ls _ _ hV1 hS1 hsc1 (am_lr_eq hρ hv.2.1 hl) (by show cells + (am_n q1.2 - am_n h) + am_n h' = mc + am_n q1.2; omega) (by show slots + (am_sl q1.2 - am_sl h) + am_sl h' = ms + am_sl q1.2; omega) (fun pc' i nx st' ρ2 α2 H2 locs2 ls2 c1 c2 c3 c4 c5 => HR pc' i nx st' ρ2 α2 H2 locs2 ls2 c1 c2 (fun j hj => (c3 j (Nat.lt_of_lt_of_le hj a1)).trans (hρ j hj)) c4 c5)
                  · cases hone
          · cases hx
