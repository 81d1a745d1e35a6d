/-! The claim out of a run of the abstract machine. -/
theorem am_nml_in : ∀ q ∈ am_nml, Jvm.Cond.methodLinkNest q.1 q.2.1 q.2.2.1 q.2.2.2 ∈ lw_tbl := List.forall_mem_cons.mpr ⟨am_ck0 146 rfl, List.forall_mem_cons.mpr ⟨am_ck0 162 rfl, List.forall_mem_cons.mpr ⟨am_ck1 39 rfl, List.forall_mem_cons.mpr ⟨am_ck1 76 rfl, List.forall_mem_cons.mpr ⟨am_ck1 142 rfl, List.forall_mem_cons.mpr ⟨am_ck1 163 rfl, List.forall_mem_cons.mpr ⟨am_ck2 21 rfl, List.forall_mem_cons.mpr ⟨am_ck2 66 rfl, List.forall_mem_cons.mpr ⟨am_ck2 72 rfl, List.forall_mem_cons.mpr ⟨am_ck2 188 rfl, List.forall_mem_cons.mpr ⟨am_ck3 40 rfl, List.forall_mem_cons.mpr ⟨am_ck3 122 rfl, fun _ h => absurd h List.not_mem_nil⟩⟩⟩⟩⟩⟩⟩⟩⟩⟩⟩⟩
theorem am_ao_in : ∀ C ∈ am_ao, Jvm.Cond.arrayOver (.object C) ∈ lw_tbl := List.forall_mem_cons.mpr ⟨am_ck0 118 rfl, List.forall_mem_cons.mpr ⟨am_ck0 186 rfl, List.forall_mem_cons.mpr ⟨am_ck0 188 rfl, fun _ h => absurd h List.not_mem_nil⟩⟩⟩
theorem am_kn_all {s : State} {args : Array Value} (hts : ∀ w ∈ lw_tbl, w.before args s = true) : ∃ D : va_G, va_K D am_cl [] s := by
  have key : ∀ c : Nat, ∃ (cC : ClassId) (iS : Nat → Nat), ∀ q, am_cl[c]? = some q → u_Kn s q.1 q.2.1 q.2.2 cC iS := by
    intro c
    cases h : am_cl[c]? with
    | none => exact ⟨0, fun _ => 0, fun q hq => by cases hq⟩
    | some q =>
      obtain ⟨C, T, N⟩ := q
      have oc := am_oc_all c C T N h
      obtain ⟨cC, iS, hk⟩ := u_known (ws := am_G) (n := N) (fun w hw => hts w (List.mem_filter.mp hw).1) oc.1 (hts _ (List.mem_filter.mp oc.2.2.2.1).1)
      exact ⟨cC, iS, fun q hq => by cases hq; exact hk⟩
  exact ⟨(fun c => (key c).choose, fun c => (key c).choose_spec.choose), fun c q hq => (key c).choose_spec.choose_spec q hq, fun k q h => by simp at h⟩
/-- the abstract heap at the law's entry: the script alone -/
def am_h0 (L : Nat) (xs : Nat → Int32) : am_H := (1, 0, fun _ => (1, 0, L), fun k => if k = 0 then xs else fun _ => 0, fun _ _ => none)
set_option maxHeartbeats 1000000 in
theorem am_whole {p : Program} {e : Env} {s : State} {m : MethodId} {below : List Frame} {meth : Method} {c : Code} (l : Launch) {b L : Nat} {xs : Nat → Int32} (C0 : lw_At p s m meth c b L xs) (hrun : am_wp (11, 434) 0 0 [some (.ref 0), none, none, none] [] (am_h0 L xs) (fun r h' => r = some (.int 1) ∧ am_n h' ≤ 600001 ∧ am_sl h' ≤ 7302250)) : W p l e room_1 s m #[Value.ref b] below meth c s.heap [] 0 0 (lw_Z below #[Value.ref b] s) (entryFrame m ([Value.ref b] : List Value).toArray 4) := by
  obtain ⟨n, r, h', hx, rfl, hn, hs⟩ := hrun
  obtain ⟨hx0, hb, hr, hml, hown, hts, hX, hbl, hlocks, hgv⟩ := C0
  obtain ⟨D, hK⟩ := am_kn_all hts
  have hts' : ∀ w ∈ am_G, w.before #[Value.ref b] s = true := fun w hw => hts w (List.mem_filter.mp hw).1
  have hN : am_N s := ⟨fun q hq => absurd hq List.not_mem_nil, fun q hq => va_Nw.of rfl (hts _ (am_nml_in q hq)), fun C hC => va_AO.of (hts _ (am_ao_in C hC))⟩
  have F : am_F p s m #[Value.ref b] meth c (fun q => s.heap.size ≤ q) 0 := ⟨hx0, hb, hml, hr, hown, hts', hN, hlocks, fun z => absurd z (by decide), fun q h => h⟩
  have hV : am_V D (fun q => s.heap.size ≤ q) s (am_h0 L xs) (fun _ => b) (fun _ => 0) s.heap := by
    refine ⟨[], hK, fun k h0 h1 => absurd (show k < 1 from h1) (by omega), fun k q h => ?_, fun i j x y h => ?_, fun k q h => ?_⟩
    · simp [am_ws, am_h0, am_n] at h
    · simp [am_ws, am_h0, am_n] at h
    · simp [am_ws, am_h0, am_n] at h
  have hl := lv_entry ([Value.ref b]) (n := 4) (Nat.le_of_ble_eq_true rfl)
  rw [lg_entry_eq]
  have hl2 : am_lr (fun _ => b) [some (.ref 0), none, none, none] ((lg_sl ([Value.ref b]) ++ List.replicate (4 - (lg_sl ([Value.ref b])).length) Slot.unset).toArray) (am_ml 0) := by
    refine ⟨⟨hl.1, hl.2.1, fun q hq => ?_⟩, rfl⟩
    obtain ⟨v, e1, e2⟩ := am_kn_m.mp hq
    have g := am_en_args (ρ := fun _ => b) (N := 3) [.ref 0] 0 q.1 v e1
    rw [Nat.zero_add, ← e2] at g
    exact hl.2.2 q g
  have h1 : 1 ≤ am_n h' := (am_ex_v _ _ _ _ _ _ _ _ _ hx ⟨⟨Nat.one_pos, fun k j q h => by cases h⟩, am_en_v (ml := 4) (As := [.ref 0]) (fun v hv => by simp at hv; subst hv; exact Nat.one_pos), am_vt_0⟩).2.2.1
  refine am_sound am_ok_all am_oc_all am_om_all n (11, 434) 0 0 _ [] _ _ h' hx ⟨⟨Nat.one_pos, fun k j q h => by cases h⟩, am_en_v (ml := 4) (As := [.ref 0]) (fun v hv => by simp at hv; subst hv; exact Nat.one_pos), am_vt_0⟩ p l e room_1 s m #[Value.ref b] below meth c _ D (lw_Z below #[Value.ref b] s) (am_n h' - 1) (am_sl h') F (Nat.le_refl _) (Nat.le_refl _) (by show am_n h' - 1 ≤ 600000; omega) hs (fun _ => b) (fun _ => 0) s.heap [] _ 0 0 hV va_S.rf (fun _ => ⟨b, L, xs, hX, hbl, Nat.not_le.mpr hbl, rfl, rfl, rfl⟩) hl2 (by show 0 + am_n h' = am_n h' - 1 + 1; omega) (by show 0 + am_sl h' = am_sl h' + 0; omega) ?_
  intro pc' i nx st' ρ' α' H' locs' ls' hat hret hρ hV' hS'
  have ok := am_ok_all _ _ _ _ hat
  rcases am_ret_c hret with ⟨rfl, hrt, rfl, e1⟩ | ⟨v, rfl, hrt, rfl, e1⟩ | ⟨v, rfl, hrt, rfl, e1⟩ | ⟨C, o, rfl, hrt, rfl, e1⟩
  · cases e1
  · cases e1
    refine va_forget (fun q hq => hS'.2.2 q hq) ?_
    refine W.widen (k := 600000) (n := 7302250) (by omega) hs ?_
    exact lw_ret hx0 hb hr hlocks ok.1
  · cases e1
  · cases o <;> cases e1
