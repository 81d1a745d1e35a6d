/-! The steps that read or change the heap. -/
theorem am_nar {c j : Nat} {o : Option Nat} (h : am_rf c j = true) : narrow (am_ty c j) (va_rf o) = va_rf o ∧ fits (am_ty c j) (va_rf o) = true := by
  unfold am_rf at h
  split at h
  · rename_i e; rw [e]; cases o <;> exact ⟨rfl, rfl⟩
  · rename_i e; rw [e]; cases o <;> exact ⟨rfl, rfl⟩
  · cases h
theorem am_lg_t {c j : Nat} (h : am_lg c j = true) : am_ty c j = .long := by
  unfold am_lg at h
  split at h
  · assumption
  · cases h
theorem am_V_new {D : va_G} {A : Nat → Prop} {s : State} {h : am_H} {ρ : Nat → Nat} {α : Nat → ClassId} {H1 : Heap} {q : Nat} {cA : ClassId} {z : am_S} {w : Nat} {E : va_E} {tys tys1 : List (ClassId × FieldType)} (hh : am_vh h) (hT : ∀ k, 0 < k → k < am_n h → ¬ (am_sh h k).1 = 0 → ∃ t : Nat, tys[t]? = some (α k, am_et (am_sh h k))) (hK1 : va_K D am_cl (tys ++ tys1) s) (hty : ¬ z.1 = 0 → tys1 = [(cA, am_et z)]) (hE : am_cell (va_up ρ (am_n h) q) (va_up α (am_n h) cA) (am_new h z w) (am_n h) = E) (hP1 : va_P D am_cl (am_ws ρ α h ++ [(q, E)]) H1) (hD1 : va_D A (am_ws ρ α h ++ [(q, E)])) : am_V D A s (am_new h z w) (va_up ρ (am_n h) q) (va_up α (am_n h) cA) H1 := by
  have hρ : ∀ j, j < am_n h → va_up ρ (am_n h) q j = ρ j := fun j hj => if_neg (Nat.ne_of_lt hj)
  have e : am_ws ρ α h ++ [(q, E)] = am_ws (va_up ρ (am_n h) q) (va_up α (am_n h) cA) (am_new h z w) := am_ws_new hh.1 rfl (if_pos rfl) hE (fun j hj => ⟨hρ j hj, am_cell_new hh hj hρ (if_neg (Nat.ne_of_lt hj))⟩)
  refine ⟨tys ++ tys1, hK1, fun k h0 h1 h2 => ?_, by rw [← e]; exact hP1, by rw [← e]; exact hD1⟩
  by_cases ek : k = am_n h
  · subst ek
    have e0 : am_sh (am_new h z w) (am_n h) = z := if_pos rfl
    rw [e0] at h2 ⊢
    rw [hty h2]
    refine ⟨tys.length, ?_⟩
    rw [List.getElem?_append_right (Nat.le_refl _), Nat.sub_self]
    show some _ = some _
    rw [show va_up α (am_n h) cA (am_n h) = cA from if_pos rfl]
  · have h1 : k < am_n h := by
      have h1 : k < am_n h + 1 := h1
      omega
    have e0 : am_sh (am_new h z w) k = am_sh h k := if_neg ek
    rw [e0] at h2 ⊢
    obtain ⟨t, ht⟩ := hT k h0 h1 h2
    refine ⟨t, ?_⟩
    rw [List.getElem?_append_left (List.getElem?_eq_some_iff.mp ht).1, ht, show va_up α (am_n h) cA k = α k from if_neg ek]
theorem am_gv_wI {h : am_H} {a j c b : Nat} {x : Int32} : am_gv (am_wI h a j x) a c b = if b = j then (if am_rf c b = true then va_rf (am_P h a b) else if am_lg c b = true then .long x.toInt64 else .int x) else am_gv h a c b := by
  have e1 : am_P (am_wI h a j x) a b = am_P h a b := rfl
  unfold am_gv
  rw [e1, am_I_w, if_pos rfl]
  by_cases hb : b = j
  · rw [if_pos hb, if_pos hb]
  · rw [if_neg hb, if_neg hb]
theorem am_gv_wP {h : am_H} {a j c b : Nat} {o : Option Nat} : am_gv (am_wP h a j o) a c b = if b = j then (if am_rf c b = true then va_rf o else if am_lg c b = true then .long (am_I h a b).toInt64 else .int (am_I h a b)) else am_gv h a c b := by
  have e1 : am_I (am_wP h a j o) a b = am_I h a b := rfl
  unfold am_gv
  rw [e1, am_P_w, if_pos rfl]
  by_cases hb : b = j
  · rw [if_pos hb, if_pos hb]
  · rw [if_neg hb, if_neg hb]
theorem am_cn_i {ρ : Nat → Nat} {α : Nat → ClassId} {h : am_H} {t N w : Nat} {cA : ClassId} (ht : t = 1 ∨ t = 3) : am_cell ρ (va_up α (am_n h) cA) (am_new h (t, 0, N) w) (am_n h) = .inl (cA, N, .inl (fun _ => 0)) := by
  have e0 : am_sh (am_new h (t, 0, N) w) (am_n h) = (t, 0, N) := if_pos rfl
  have e1 : am_I (am_new h (t, 0, N) w) (am_n h) = fun _ => 0 := funext fun b => if_pos rfl
  have e2 : va_up α (am_n h) cA (am_n h) = cA := if_pos rfl
  rcases ht with rfl | rfl
  · rw [am_cell_1 (by rw [e0]), e0, e1, e2]
  · rw [am_cell_3 (by rw [e0]), e0, e1, e2]
theorem am_cn_q {ρ : Nat → Nat} {α : Nat → ClassId} {h : am_H} {c N w : Nat} {cA : ClassId} : am_cell ρ (va_up α (am_n h) cA) (am_new h (2, c, N) w) (am_n h) = .inl (cA, N, .inr (.inr (.inr (.inr (fun _ => none))))) := by
  have e0 : am_sh (am_new h (2, c, N) w) (am_n h) = (2, c, N) := if_pos rfl
  have e1 : (fun j => (am_P (am_new h (2, c, N) w) (am_n h) j).map ρ) = fun _ => none := funext fun b => by
    rw [show am_P (am_new h (2, c, N) w) (am_n h) b = none from if_pos rfl]; rfl
  have e2 : va_up α (am_n h) cA (am_n h) = cA := if_pos rfl
  rw [am_cell_2 (by rw [e0]), e0, e1, e2]
section AMM
variable {p : Program} {l : Launch} {e : Env} {R : Room} {s : State} {m : MethodId} {args : Array Value} {below : List Frame} {meth : Method} {c : Code} {H : Heap} {locs : List Loc} {cells slots : Nat} {Q : State → Prop} {A : Nat → Prop} {D : va_G} {mi pc nx : Nat} {d : am_D} {h : am_H} {ρ : Nat → Nat} {α : Nat → ClassId} {ls : Array Slot} {L : am_L} {st : List Value} {i : Instr}
/-- what comes behind a step that may change the heap -/
abbrev am_KK (p : Program) (l : Launch) (e : Env) (R : Room) (s : State) (m : MethodId) (args : Array Value) (below : List Frame) (meth : Method) (c : Code) (Q : State → Prop) (A : Nat → Prop) (D : va_G) (h : am_H) (ρ : Nat → Nat) (nx : Nat) (ls : Array Slot) (cells slots : Nat) (q : List Value × am_H) : Prop :=
  ∀ (ρ' : Nat → Nat) (α' : Nat → ClassId) (H' : Heap) (locs' : List Loc), (∀ k, k < am_n h → ρ' k = ρ k) → am_V D A s q.2 ρ' α' H' → va_S A s.heap H' locs' → W p l e R s m args below meth c H' locs' cells slots Q (F0 m nx ls (q.1.map (am_cv ρ')))
theorem am_put_s (OC : am_OC) (F : am_F p s m args meth c A mi) {cf a : Nat} {v : Value} {r : List Value} {h' : am_H} (hok : am_okf mi pc cf nx Instr.putfield True) (hV : am_V D A s h ρ α H) (hS : va_S A s.heap H locs) (h1 : am_ob h a (cf / 64)) (h2 : cf % 64 < am_nf (cf / 64)) (n1 : narrow (am_ty (cf / 64) (cf % 64)) (am_cv ρ v) = am_cv ρ v) (n2 : fits (am_ty (cf / 64) (cf % 64)) (am_cv ρ v) = true) (hn : am_n h' = am_n h) (hs : am_sh h' = am_sh h) (g1 : am_gv h' a (cf / 64) (cf % 64) = v) (g2 : ∀ b, b ≠ cf % 64 → am_gv h' a (cf / 64) b = am_gv h a (cf / 64) b) (g3 : ∀ b, b ≠ a → am_cell ρ α h' b = am_cell ρ α h b)
    (K : am_KK p l e R s m args below meth c Q A D h ρ nx ls cells slots (r, h')) : W p l e R s m args below meth c H locs cells slots Q (F0 m pc ls (am_cv ρ v :: .ref (ρ a) :: r.map (am_cv ρ))) := by
  obtain ⟨hx, hb, hml, hr, hown, hts, hNs, hlk, hnm, hA⟩ := F
  obtain ⟨C, T, N, idx, hcl, ⟨hdc, rfl⟩, hlink⟩ := hok
  obtain ⟨tys, hK, hT, hP, hD⟩ := hV
  have oc := OC _ _ _ _ hcl
  have hN : cf % 64 < N := by unfold am_nf at h2; rw [hcl] at h2; exact h2
  have he := am_ws_at (ρ := ρ) (α := α) h1.1 h1.2.1 (am_cell_0 (ρ := ρ) (α := α) h1.2.2.1 h1.2.2.2)
  have e1 := am_fs_set (ρ := ρ) (h := h) (h' := h') h2 g1 g2
  have e2 : (am_ws ρ α h).set (a - 1) (ρ a, .inr (cf / 64, (am_fs ρ h a (cf / 64)).set (cf % 64) (am_cv ρ v))) = am_ws ρ α h' := am_ws_set h1.1 h1.2.1 hn (by rw [am_cell_0 (c := cf / 64) (by rw [hs]; exact h1.2.2.1) (by rw [hs]; exact h1.2.2.2), e1]) g3
  have kk : ∀ (H1 : Heap) (locs1 : List Loc), va_P D am_cl ((am_ws ρ α h).set (a - 1) (ρ a, .inr (cf / 64, (am_fs ρ h a (cf / 64)).set (cf % 64) (am_cv ρ v)))) H1 → va_D A ((am_ws ρ α h).set (a - 1) (ρ a, .inr (cf / 64, (am_fs ρ h a (cf / 64)).set (cf % 64) (am_cv ρ v)))) → va_S A s.heap H1 locs1 → W p l e R s m args below meth c H1 locs1 cells slots Q (F0 m (pc + 3) ls (r.map (am_cv ρ))) := fun H1 locs1 hP1 hD1 hS1 => by
    rw [e2] at hP1 hD1
    exact K ρ α H1 locs1 (fun _ _ => rfl) ⟨tys, hK, by rw [hn, hs]; exact hT, hP1, hD1⟩ hS1
  rcases hlink with ⟨hw, hf⟩ | ⟨host, hw, hf⟩
  · rcases hf trivial with f1 | ⟨f1, f2, f3⟩
    · exact va_put hx hb hts oc.1 (am_ty (cf / 64)) oc.2.1 oc.2.2.1 hown hK hP hD hS (a - 1) he hcl (cf % 64) hN (hts _ hw) (fun _ h9 => h9) f1 (oc.2.1 _ hN) n1 n2 (by rw [am_fs_len]; exact h2) hdc kk
    · exact va_putF hx hb hts oc.1 (am_ty (cf / 64)) oc.2.1 oc.2.2.1 hown hK hP hD hS (a - 1) he hcl (cf % 64) hN (hts _ hw) (fun _ h9 => h9) f1 (hnm f2) f3 (oc.2.1 _ hN) n1 n2 (by rw [am_fs_len]; exact h2) hdc kk
  · exact va_putN (host := host) hx hb hts oc.1 (am_ty (cf / 64)) oc.2.1 oc.2.2.1 hown hK hP hD hS (a - 1) he hcl (cf % 64) hN (va_Nw.use rfl (hNs.1 _ hw)) (fun _ h9 => h9) (hf trivial) (oc.2.1 _ hN) n1 n2 (by rw [am_fs_len]; exact h2) hdc kk
theorem am_et_1 {z : am_S} (h : z.1 = 1) : am_et z = .int := by unfold am_et; rw [h]; rfl
theorem am_et_3 {z : am_S} (h : z.1 = 3) : am_et z = .boolean := by unfold am_et; rw [h]; rfl
theorem am_et_2 {z : am_S} (h : z.1 = 2) : am_et z = .object (am_cn z.2.1) := by unfold am_et; rw [h]; rfl
theorem am_st_s (F : am_F p s m args meth c A mi) {a t : Nat} {g : Nat → Int32} {r : List Value} {h' : am_H} (hV : am_V D A s h ρ α H) (h1 : am_ay h a t) (ht : t = 1 ∨ t = 3) (hn : am_n h' = am_n h) (hs : am_sh h' = am_sh h) (g1 : am_I h' a = g) (g3 : ∀ b, b ≠ a → am_cell ρ α h' b = am_cell ρ α h b) {H1 : Heap} (hP1 : va_P D am_cl ((am_ws ρ α h).set (a - 1) (ρ a, .inl (α a, (am_sh h a).2.2, .inl g))) H1) (hD1 : va_D A ((am_ws ρ α h).set (a - 1) (ρ a, .inl (α a, (am_sh h a).2.2, .inl g)))) : am_V D A s h' ρ α H1 := by
  have e2 : (am_ws ρ α h).set (a - 1) (ρ a, .inl (α a, (am_sh h a).2.2, .inl g)) = am_ws ρ α h' := by
    refine am_ws_set h1.1 h1.2.1 hn ?_ g3
    rcases ht with rfl | rfl
    · rw [am_cell_1 (by rw [hs]; exact h1.2.2), hs, g1]
    · rw [am_cell_3 (by rw [hs]; exact h1.2.2), hs, g1]
  rw [e2] at hP1 hD1
  obtain ⟨tys, hK, hT, hP, hD⟩ := hV
  exact ⟨tys, hK, by rw [hn, hs]; exact hT, hP1, hD1⟩
set_option maxHeartbeats 1000000 in
theorem am_me_s (OC : am_OC) (F : am_F p s m args meth c A mi) {q : List Value × am_H} {cells' slots' : Nat} (hok : am_ok mi pc i nx) (hm : am_me d i st h = some q) (hh : am_vh h) (hvt : am_vt (am_n h) st) (hV : am_V D A s h ρ α H) (hS : va_S A s.heap H locs) (hsc : am_sc s A mi h ρ) (hd : d.1 ≤ R.frames) (hlo : d.2 ≤ R.locals) (hsz : ls.size = am_ml mi) (hc : cells' + am_n h = cells + am_n q.2) (hs : slots' + am_sl h = slots + am_sl q.2) (hcR : cells' ≤ R.cells) (hsR : slots' ≤ R.slots)
    (K : am_KK p l e R s m args below meth c Q A D h ρ nx ls cells' slots' q) : W p l e R s m args below meth c H locs cells slots Q (F0 m pc ls (st.map (am_cv ρ))) := by
  have hF := F
  obtain ⟨hx, hb, hml, hr, hown, hts, hNs, hlk, hnm, hA⟩ := F
  obtain ⟨tys, hK, hT, hP, hD⟩ := id hV
  unfold am_me at hm
  split at hm
  · -- getfield
    rename_i cf
    obtain ⟨a, r, rfl, h1, h2, rfl⟩ := am_xg_s hm
    obtain ⟨C, T, N, idx, hcl, ⟨hdc, rfl⟩, hlink⟩ := hok
    obtain rfl : cells' = cells := Nat.add_right_cancel hc
    obtain rfl : slots' = slots := Nat.add_right_cancel hs
    have oc := OC _ _ _ _ hcl
    have hN : cf % 64 < N := by unfold am_nf at h2; rw [hcl] at h2; exact h2
    have he := am_ws_at (ρ := ρ) (α := α) h1.1 h1.2.1 (am_cell_0 (ρ := ρ) (α := α) h1.2.2.1 h1.2.2.2)
    have hv := am_fs_get (ρ := ρ) (h := h) (k := a) h2
    have kk := K ρ α H locs (fun _ _ => rfl) hV hS
    rcases hlink with ⟨hw, -⟩ | ⟨host, hw, -⟩
    · exact va_get hx hb hts oc.1 hown hK hP (a - 1) he hcl _ hN (hts _ hw) (fun _ h9 => h9) hv hdc kk
    · exact va_getN (host := host) hx hb hts oc.1 hown hK hP (a - 1) he hcl _ hN (va_Nw.use rfl (hNs.1 _ hw)) (fun _ h9 => h9) hv hdc kk
  · -- putfield
    rename_i cf
    obtain ⟨v, a, r, h', rfl, h1, h2, h3, rfl⟩ := am_xp_s hm
    rcases am_pv_s h3 with ⟨x, rfl, g1, g0, g2, g3, rfl⟩ | ⟨x, rfl, g1, g0, rfl⟩ | ⟨o, rfl, g1, rfl⟩
    · obtain rfl : cells' = cells := Nat.add_right_cancel hc
      obtain rfl : slots' = slots := Nat.add_right_cancel hs
      exact am_put_s (h' := am_wI h a (cf % 64) x) (r := r) (v := .int x) OC hF hok hV hS h1 h2 g2 g3 rfl rfl (by rw [am_gv_wI, if_pos rfl, if_neg (by rw [g1]; decide), if_neg (by rw [g0]; decide)]) (fun b hb => by rw [am_gv_wI, if_neg hb]) (fun b hb => am_cell_wI hb) K
    · obtain rfl : cells' = cells := Nat.add_right_cancel hc
      obtain rfl : slots' = slots := Nat.add_right_cancel hs
      have hty : am_ty _ _ = FieldType.long := am_lg_t g0
      exact am_put_s (h' := am_wI h a (cf % 64) x) (r := r) (v := .long x.toInt64) OC hF hok hV hS h1 h2 (by rw [hty]; rfl) (by rw [hty]; rfl) rfl rfl (by rw [am_gv_wI, if_pos rfl, if_neg (by rw [g1]; decide), if_pos g0]) (fun b hb => by rw [am_gv_wI, if_neg hb]) (fun b hb => am_cell_wI hb) K
    · obtain rfl : cells' = cells := Nat.add_right_cancel hc
      obtain rfl : slots' = slots := Nat.add_right_cancel hs
      exact am_put_s (h' := am_wP h a (cf % 64) o) (r := r) (v := va_rf o) OC hF hok hV hS h1 h2 (by rw [am_cv_rf]; exact (am_nar g1).1) (by rw [am_cv_rf]; exact (am_nar g1).2) rfl rfl (by rw [am_gv_wP, if_pos rfl, if_pos g1]) (fun b hb => by rw [am_gv_wP, if_neg hb]) (fun b hb => am_cell_wP hb) K
  · -- iaload
    obtain ⟨i, a, r, rfl, h1, h2, rfl⟩ := am_xl_s hm
    obtain ⟨hdc, rfl⟩ := hok
    obtain rfl : cells' = cells := Nat.add_right_cancel hc
    obtain rfl : slots' = slots := Nat.add_right_cancel hs
    obtain ⟨t0, ht⟩ := hT a h1.1 h1.2.1 (by rw [h1.2.2]; decide)
    rw [am_et_1 h1.2.2] at ht
    exact va_iald hx hb hK hP (a - 1) t0 (am_ws_at h1.1 h1.2.1 (am_cell_1 h1.2.2)) ht h2 hdc (K ρ α H locs (fun _ _ => rfl) hV hS)
  · -- iastore
    obtain ⟨x, i, a, r, rfl, h1, h2, rfl⟩ := am_xs_s hm
    obtain ⟨hdc, rfl⟩ := hok
    obtain rfl : cells' = cells := Nat.add_right_cancel hc
    obtain rfl : slots' = slots := Nat.add_right_cancel hs
    obtain ⟨t0, ht⟩ := hT a h1.1 h1.2.1 (by rw [h1.2.2]; decide)
    rw [am_et_1 h1.2.2] at ht
    exact va_iast hx hb hK hP hD hS (a - 1) t0 (am_ws_at h1.1 h1.2.1 (am_cell_1 h1.2.2)) ht h2 hdc (fun H1 locs1 hP1 hD1 hS1 => K ρ α H1 locs1 (fun _ _ => rfl) (am_st_s (h' := am_wI h a i.toNatClampNeg x) (r := r) hF hV h1 (Or.inl rfl) rfl rfl (funext fun b => by rw [am_I_w, if_pos rfl]; rfl) (fun b hb => am_cell_wI hb) hP1 hD1) hS1)
  · -- baload
    obtain ⟨i, a, r, rfl, h1, h2, rfl⟩ := am_xl_s hm
    obtain ⟨hdc, rfl⟩ := hok
    obtain rfl : cells' = cells := Nat.add_right_cancel hc
    obtain rfl : slots' = slots := Nat.add_right_cancel hs
    obtain ⟨t0, ht⟩ := hT a h1.1 h1.2.1 (by rw [h1.2.2]; decide)
    rw [am_et_3 h1.2.2] at ht
    exact va_zald hx hb hK hP (a - 1) t0 (am_ws_at h1.1 h1.2.1 (am_cell_3 h1.2.2)) ht h2 hdc (K ρ α H locs (fun _ _ => rfl) hV hS)
  · -- bastore
    obtain ⟨x, i, a, r, rfl, h1, h2, rfl⟩ := am_xz_s hm
    obtain ⟨hdc, rfl⟩ := hok
    obtain rfl : cells' = cells := Nat.add_right_cancel hc
    obtain rfl : slots' = slots := Nat.add_right_cancel hs
    obtain ⟨t0, ht⟩ := hT a h1.1 h1.2.1 (by rw [h1.2.2]; decide)
    rw [am_et_3 h1.2.2] at ht
    exact va_zast hx hb hK hP hD hS (a - 1) t0 (am_ws_at h1.1 h1.2.1 (am_cell_3 h1.2.2)) ht h2 hdc (fun H1 locs1 hP1 hD1 hS1 => K ρ α H1 locs1 (fun _ _ => rfl) (am_st_s (h' := am_wI h a i.toNatClampNeg (vp_nar .boolean x)) (r := r) hF hV h1 (Or.inr rfl) rfl rfl (funext fun b => by rw [am_I_w, if_pos rfl]; rfl) (fun b hb => am_cell_wI hb) hP1 hD1) hS1)
  · -- aaload
    obtain ⟨i, a, r, rfl, h1, h2, rfl⟩ := am_xa_s hm
    obtain ⟨hdc, rfl⟩ := hok
    obtain rfl : cells' = cells := Nat.add_right_cancel hc
    obtain rfl : slots' = slots := Nat.add_right_cancel hs
    obtain ⟨t0, ht⟩ := hT a h1.1 h1.2.1 (by rw [h1.2.2]; decide)
    rw [am_et_2 h1.2.2] at ht
    have kk := K ρ α H locs (fun _ _ => rfl) hV hS
    rw [List.map_cons, am_cv_rf] at kk
    exact va_aldq hx hb hK hP (a - 1) t0 (am_ws_at h1.1 h1.2.1 (am_cell_2 h1.2.2)) ht h2 hdc kk
  · -- aastore
    obtain ⟨o, i, a, r, rfl, h1, ho, h2, rfl⟩ := am_xt_s hm
    obtain ⟨hdc, rfl⟩ := hok
    obtain rfl : cells' = cells := Nat.add_right_cancel hc
    obtain rfl : slots' = slots := Nat.add_right_cancel hs
    obtain ⟨t0, ht⟩ := hT a h1.1 h1.2.1 (by rw [h1.2.2]; decide)
    rw [am_et_2 h1.2.2] at ht
    have e2 : (am_ws ρ α h).set (a - 1) (ρ a, .inl (α a, (am_sh h a).2.2, .inr (.inr (.inr (.inr (va_up (fun j => (am_P h a j).map ρ) i.toNatClampNeg (o.map ρ))))))) = am_ws ρ α (am_wP h a i.toNatClampNeg o) := by
      refine am_ws_set h1.1 h1.2.1 rfl ?_ (fun b hb => am_cell_wP hb)
      rw [am_cell_2 (h := am_wP h a i.toNatClampNeg o) h1.2.2]
      have e3 : (fun j => (am_P (am_wP h a i.toNatClampNeg o) a j).map ρ) = va_up (fun j => (am_P h a j).map ρ) i.toNatClampNeg (o.map ρ) := by
        funext j
        rw [am_P_w, if_pos rfl]
        unfold va_up
        split <;> rfl
      rw [e3]; rfl
    have kk : ∀ (H1 : Heap) (locs1 : List Loc), va_P D am_cl ((am_ws ρ α h).set (a - 1) (ρ a, .inl (α a, (am_sh h a).2.2, .inr (.inr (.inr (.inr (va_up (fun j => (am_P h a j).map ρ) i.toNatClampNeg (o.map ρ)))))))) H1 → va_D A ((am_ws ρ α h).set (a - 1) (ρ a, .inl (α a, (am_sh h a).2.2, .inr (.inr (.inr (.inr (va_up (fun j => (am_P h a j).map ρ) i.toNatClampNeg (o.map ρ)))))))) → va_S A s.heap H1 locs1 → W p l e R s m args below meth c H1 locs1 cells' slots' Q (F0 m (pc + 1) ls (r.map (am_cv ρ))) := fun H1 locs1 hP1 hD1 hS1 => by
      rw [e2] at hP1 hD1
      exact K ρ α H1 locs1 (fun _ _ => rfl) ⟨tys, hK, hT, hP1, hD1⟩ hS1
    cases o with
    | none => exact va_astqN hx hb hK hP hD hS (a - 1) t0 (am_ws_at h1.1 h1.2.1 (am_cell_2 h1.2.2)) ht h2 hdc kk
    | some v =>
      have hv := ho v rfl
      have he := am_ws_at (ρ := ρ) (α := α) hv.1 hv.2.1 (am_cell_0 (ρ := ρ) (α := α) hv.2.2.1 hv.2.2.2)
      obtain ⟨rr, hrr, -⟩ := hP _ _ he
      have hrr : am_cl[(am_sh h a).2.1]? = some rr := hrr
      have hcn : am_cn (am_sh h a).2.1 = rr.1 := by unfold am_cn; rw [hrr]
      rw [hcn] at ht
      exact va_astq hx hb hK hP hD hS (a - 1) t0 (v - 1) _ (am_ws_at h1.1 h1.2.1 (am_cell_2 h1.2.2)) ht he hrr h2 hdc kk
  · -- arraylength
    obtain ⟨a, r, rfl, h1, h2, h3, rfl⟩ := am_xn_s hm
    obtain ⟨hdc, rfl⟩ := hok
    obtain rfl : cells' = cells := Nat.add_right_cancel hc
    obtain rfl : slots' = slots := Nat.add_right_cancel hs
    obtain ⟨t0, ht⟩ := hT a h1 h2 h3
    obtain ⟨x, e1, e2⟩ := am_cell_a (ρ := ρ) (α := α) h3
    exact va_alen hx hb hK hP (a - 1) t0 (am_ws_at h1 h2 e1) ht (by rw [e2]) hdc (K ρ α H locs (fun _ _ => rfl) hV hS)
  · -- newarray int
    obtain ⟨n, r, k, hk, rfl, h1, h2, rfl⟩ := am_xw_s hm
    cases hk
    obtain ⟨⟨hdc, rfl⟩, hw⟩ := hok
    have ec : cells' = cells + 1 := by have : cells' + am_n h = cells + (am_n h + 1) := hc; omega
    have es : slots' = slots + n.toNatClampNeg := by have : slots' + am_sl h = slots + (am_sl h + n.toNatClampNeg) := hs; omega
    subst ec; subst es
    refine va_newa hx hb (hts _ hw) (ty := .int) rfl hK hP hD hS hA (N' := n.toNatClampNeg) (a0 := (n.toNatClampNeg, .inl (fun _ => 0))) (fun _ => rfl) h1 rfl h2 hcR hsR hdc (fun q cA H1 hK1 hP1 hD1 hS1 => ?_)
    have hρ : ∀ j, j < am_n h → va_up ρ (am_n h) q j = ρ j := fun j hj => if_neg (Nat.ne_of_lt hj)
    have kk := K (va_up ρ (am_n h) q) (va_up α (am_n h) cA) H1 locs hρ (am_V_new hh hT hK1 (fun _ => by rw [am_et_1 rfl]) (am_cn_i (Or.inl rfl)) hP1 hD1) hS1
    rw [List.map_cons, am_cs_eq hρ (am_vt_c.mp hvt).2, show am_cv (va_up ρ (am_n h) q) (.ref (am_n h)) = .ref q from congrArg Value.ref (if_pos rfl)] at kk
    exact kk
  · -- newarray boolean
    obtain ⟨n, r, k, hk, rfl, h1, h2, rfl⟩ := am_xw_s hm
    cases hk
    obtain ⟨⟨hdc, rfl⟩, hw⟩ := hok
    have ec : cells' = cells + 1 := by have : cells' + am_n h = cells + (am_n h + 1) := hc; omega
    have es : slots' = slots + n.toNatClampNeg := by have : slots' + am_sl h = slots + (am_sl h + n.toNatClampNeg) := hs; omega
    subst ec; subst es
    refine va_newa hx hb (hts _ hw) (ty := .boolean) rfl hK hP hD hS hA (N' := n.toNatClampNeg) (a0 := (n.toNatClampNeg, .inl (fun _ => 0))) (fun _ => rfl) h1 rfl (by show n.toNatClampNeg * 1 ≤ _; omega) hcR hsR hdc (fun q cA H1 hK1 hP1 hD1 hS1 => ?_)
    have hρ : ∀ j, j < am_n h → va_up ρ (am_n h) q j = ρ j := fun j hj => if_neg (Nat.ne_of_lt hj)
    have kk := K (va_up ρ (am_n h) q) (va_up α (am_n h) cA) H1 locs hρ (am_V_new hh hT hK1 (fun _ => by rw [am_et_3 rfl]) (am_cn_i (Or.inr rfl)) hP1 hD1) hS1
    rw [List.map_cons, am_cs_eq hρ (am_vt_c.mp hvt).2, show am_cv (va_up ρ (am_n h) q) (.ref (am_n h)) = .ref q from congrArg Value.ref (if_pos rfl)] at kk
    exact kk
  · -- anewarray
    obtain ⟨n, r, rfl, h1, h2, rfl⟩ := am_xq_s hm
    obtain ⟨idx, ⟨hdc, rfl⟩, hw, hao⟩ := hok
    have ec : cells' = cells + 1 := by have : cells' + am_n h = cells + (am_n h + 1) := hc; omega
    have es : slots' = slots + n.toNatClampNeg := by have : slots' + am_sl h = slots + (am_sl h + n.toNatClampNeg) := hs; omega
    subst ec; subst es
    refine va_newq hx hb hown (hts _ hw) (hNs.2.2 _ hao) hK hP hD hS hA (N' := n.toNatClampNeg) h1 rfl h2 hcR hsR hdc (fun q cA H1 hK1 hP1 hD1 hS1 => ?_)
    have hρ : ∀ j, j < am_n h → va_up ρ (am_n h) q j = ρ j := fun j hj => if_neg (Nat.ne_of_lt hj)
    have kk := K (va_up ρ (am_n h) q) (va_up α (am_n h) cA) H1 locs hρ (am_V_new hh hT hK1 (fun _ => by rw [am_et_2 rfl]) am_cn_q hP1 hD1) hS1
    rw [List.map_cons, am_cs_eq hρ (am_vt_c.mp hvt).2, show am_cv (va_up ρ (am_n h) q) (.ref (am_n h)) = .ref q from congrArg Value.ref (if_pos rfl)] at kk
    exact kk
  · -- new
    rename_i cc
    cases hm
    obtain ⟨idx, ⟨hdc, rfl⟩, hcl, hw⟩ := hok
    obtain ⟨⟨C, T, N⟩, hcl⟩ : ∃ q, am_cl[cc]? = some q := ⟨_, List.getElem?_eq_getElem hcl⟩
    have oc := OC _ _ _ _ hcl
    have hnf : am_nf cc = N := by unfold am_nf; rw [hcl]
    have hcn : am_cn cc = C := by unfold am_cn; rw [hcl]
    rw [hcn] at hw
    have ec : cells' = cells + 1 := by have : cells' + am_n h = cells + (am_n h + 1) := hc; omega
    have es : slots' = slots + N := by have : slots' + am_sl h = slots + (am_sl h + am_nf cc) := hs; omega
    subst ec; subst es
    have hfs : ∀ j, j < N → defaultValue (am_ty cc j) = vp_V ((List.range N).map (fun j => if am_rf cc j = true then Value.null else if am_lg cc j = true then .long 0 else .int 0)) j := fun j hj => by
      rw [oc.2.2.2.2.2 j hj]
      unfold vp_V
      rw [List.getD_eq_getElem?_getD, List.getElem?_map, List.getElem?_range hj]; rfl
    refine va_new hx hb hts oc.1 (am_ty cc) oc.2.1 hown (hts _ hw) (hts _ oc.2.2.2.1) (hts _ oc.2.2.2.2.1) hK hP hD hS hA hcl hfs hcR hsR hdc (fun q H1 hP1 hD1 hS1 => ?_)
    have hρ : ∀ j, j < am_n h → va_up ρ (am_n h) q j = ρ j := fun j hj => if_neg (Nat.ne_of_lt hj)
    have hE : am_cell (va_up ρ (am_n h) q) (va_up α (am_n h) 0) (am_new h (0, cc, 0) (am_nf cc)) (am_n h) = .inr (cc, (List.range N).map (fun j => if am_rf cc j = true then Value.null else if am_lg cc j = true then .long 0 else .int 0)) := by
      have e0 : am_sh (am_new h (0, cc, 0) (am_nf cc)) (am_n h) = (0, cc, 0) := if_pos rfl
      rw [am_cell_0 (c := cc) (by rw [e0]) (by rw [e0])]
      unfold am_fs
      rw [hnf]
      congr 2
      refine List.map_congr_left (fun j _ => ?_)
      unfold am_gv
      have e1 : am_I (am_new h (0, cc, 0) (am_nf cc)) (am_n h) j = 0 := if_pos rfl
      have e2 : am_P (am_new h (0, cc, 0) (am_nf cc)) (am_n h) j = none := if_pos rfl
      rw [hnf] at e1 e2
      rw [e1, e2]
      split
      · rfl
      · split <;> rfl
    have kk := K (va_up ρ (am_n h) q) (va_up α (am_n h) 0) H1 locs hρ (am_V_new (tys1 := []) hh hT (by rw [List.append_nil]; exact hK) (fun z => absurd rfl z) hE hP1 hD1) hS1
    rw [List.map_cons, am_cs_eq hρ hvt, show am_cv (va_up ρ (am_n h) q) (.ref (am_n h)) = .ref q from congrArg Value.ref (if_pos rfl)] at kk
    exact kk
  · -- script load
    obtain ⟨i, r, rfl, h1, rfl⟩ := am_xc_s hm
    obtain ⟨⟨hdc, rfl⟩, h0⟩ := hok
    obtain rfl : cells' = cells := Nat.add_right_cancel hc
    obtain rfl : slots' = slots := Nat.add_right_cancel hs
    obtain ⟨b, Ls, xs, hX, hbl, hbA, hρ0, hL, hI⟩ := hsc h0
    have kk := K ρ α H locs (fun _ _ => rfl) hV hS
    rw [hL] at h1
    show W p l e R s m args below meth c H locs cells' slots' Q (F0 m pc ls (.int i :: .ref (ρ 0) :: r.map (am_cv ρ)))
    rw [hρ0]
    refine va_sld hx hb hX hbl hbA hS h1 hdc ?_
    rw [← hI]
    exact kk
  · -- script length
    obtain ⟨r, rfl, rfl⟩ := am_xe_s hm
    obtain ⟨⟨hdc, rfl⟩, h0⟩ := hok
    obtain rfl : cells' = cells := Nat.add_right_cancel hc
    obtain rfl : slots' = slots := Nat.add_right_cancel hs
    obtain ⟨b, Ls, xs, hX, hbl, hbA, hρ0, hL, hI⟩ := hsc h0
    have kk := K ρ α H locs (fun _ _ => rfl) hV hS
    show W p l e R s m args below meth c H locs cells' slots' Q (F0 m pc ls (.ref (ρ 0) :: r.map (am_cv ρ)))
    rw [hρ0]
    refine va_slen hx hb hX hbl hbA hS hdc ?_
    rw [← hL]
    exact kk
  · -- Object.<init>
    obtain ⟨a, r, rfl, h1, h0, h2, rfl⟩ := am_xo_s hm
    obtain ⟨idx, ⟨hdc, rfl⟩, w1, w2, w3⟩ := hok
    obtain rfl : cells' = cells := Nat.add_right_cancel hc
    obtain rfl : slots' = slots := Nat.add_right_cancel hs
    have kk := K ρ α H locs (fun _ _ => rfl) hV hS
    have hrm := lv_room (m := m) (pc := pc) (ls := ls) (rest := (Value.ref a :: r).map (am_cv ρ)) (st := r.map (am_cv ρ)) (by rw [am_cs_sum]; exact h2)
    exact W.objInit hx hb hown (hts _ w1) (hts _ w2) (hts _ w3) rfl (by rw [hml]; exact hsz) rfl hdc (by omega) (by omega) kk
  · -- Math.min
    obtain ⟨y, x, r, rfl, h1, h0, h2, rfl⟩ := am_xm_s hm
    obtain ⟨idx, ⟨hdc, rfl⟩, w1, w2, w3, w4⟩ := hok
    obtain rfl : cells' = cells := Nat.add_right_cancel hc
    obtain rfl : slots' = slots := Nat.add_right_cancel hs
    have kk := K ρ α H locs (fun _ _ => rfl) hV hS
    have hsum : ((r.map (am_cv ρ)).map fun v => v.category).sum ≤ 8 := by rw [am_cs_sum]; exact h2
    exact va_mmin hx hb (by rw [hml, hsz]) hown (hts _ w1) (hts _ w2) (hts _ w3) (hts _ w4) (by omega) (by omega) hcR hsR hdc kk
  · -- System.arraycopy
    obtain ⟨n, dp, a, sp, a0, r, rfl, ⟨h1, h0, h2, ha, ha0, p1, p2, p3, p4, p5⟩, rfl⟩ := am_xy_s hm
    obtain ⟨idx, ⟨hdc, rfl⟩, w1, w2, w3, w4⟩ := hok
    obtain rfl : cells' = cells := Nat.add_right_cancel hc
    obtain rfl : slots' = slots := Nat.add_right_cancel hs
    have hsum : ((r.map (am_cv ρ)).map fun v => v.category).sum ≤ 8 := by rw [am_cs_sum]; exact h2
    obtain ⟨t1, ht1⟩ := hT a ha.1 ha.2.1 (by rw [ha.2.2]; decide)
    rw [am_et_1 ha.2.2] at ht1
    obtain ⟨t0, ht0⟩ := hT a0 ha0.1 ha0.2.1 (by rw [ha0.2.2]; decide)
    rw [am_et_1 ha0.2.2] at ht0
    have hnw : nativeFrameWords "java/lang/System" "arraycopy" 5 = 7 := by decide
    exact va_copyi hx hb (by rw [hml, hsz]) hown (hts _ w1) (hts _ w2) (hts _ w3) (hts _ w4) hK hP hD hS (a0 - 1) (a - 1) t0 t1 (am_ws_at ha0.1 ha0.2.1 (am_cell_1 ha0.2.2)) (am_ws_at ha.1 ha.2.1 (am_cell_1 ha.2.2)) ht0 ht1 rfl p1 p2 p3 p4 p5 (fun _ _ => rfl) (by omega) (by rw [hnw]; omega) hdc (fun H1 locs1 hP1 hD1 hS1 => K ρ α H1 locs1 (fun _ _ => rfl) (am_st_s (h' := am_wR h a (va_cpy (am_I h a0) (am_I h a) sp.toNatClampNeg dp.toNatClampNeg n.toNatClampNeg)) (r := r) hF hV ha (Or.inl rfl) rfl rfl (funext fun b => if_pos rfl) (fun b hb => am_cell_wR hb) hP1 hD1) hS1)
  · cases hm
end AMM
