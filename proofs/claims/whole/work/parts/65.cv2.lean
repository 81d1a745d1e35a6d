/-! The class: what is effective for a call. -/
def ef_ok (J : Nat → Nat → Int32) (e r : Nat) : Prop := (∀ j, 1 ≤ j → j ≤ 4 → J e j = nI (jn J e j) ∧ jn J e j ≤ 16) ∧ ∀ j, J r j = nI (jn J r j) ∧ jn J r j < 16
theorem ef_cg {J K : Nat → Nat → Int32} {e r : Nat} (h : ef_ok J e r) (h1 : K e = J e) (h2 : K r = J r) : ef_ok K e r := by
  unfold ef_ok jn at h ⊢
  rw [h1, h2]
  exact h
theorem ef_wr {J : Nat → Nat → Int32} {e r j x : Nat} (h : ef_ok J e r) (hne : ¬ e = r) (hx : x < 16) : ef_ok (am_u2 J r j (nI x)) e r := by
  refine ⟨fun i a b => ?_, fun i => ?_⟩
  · have g := h.1 i a b
    unfold jn at g ⊢
    rw [fr_u hne]
    exact g
  · by_cases q : i = j
    · unfold jn
      rw [q, am_u2_s, nI_clamp (by omega)]
      exact ⟨rfl, hx⟩
    · have g := h.2 i
      unfold jn at g ⊢
      rw [u2_ne q]
      exact g
theorem ef_we {J : Nat → Nat → Int32} {e r j x : Nat} (h : ef_ok J e r) (hne : ¬ e = r) (hx : x ≤ 16) : ef_ok (am_u2 J e j (nI x)) e r := by
  refine ⟨fun i a b => ?_, fun i => ?_⟩
  · by_cases q : i = j
    · unfold jn
      rw [q, am_u2_s, nI_clamp (by omega)]
      exact ⟨rfl, hx⟩
    · have g := h.1 i a b
      unfold jn at g ⊢
      rw [u2_ne q]
      exact g
  · have g := h.2 i
    unfold jn at g ⊢
    rw [fr_u (fun q => hne q.symm)]
    exact g
noncomputable def E_in (e : Nat) (u : Nat) (w : Nat) (p : Nat) : Nat → (Nat → Nat → Int32) → (Nat → Nat → Int32)
  | 0, J => (am_u2 (am_u2 J u p (nI w)) e 1 (nI ((jn J e 1) + 1)))
  | m + 1, J => (E_in e u w p m (am_u2 J u ((p + (m + 1))) (nI (jn J u ((p + (m + 1)) - 1)))))
set_option maxRecDepth 20000 in
theorem l_E_in {d : am_D} {h : am_H} {Q : Option Value → am_H → Prop} (hB : am_B h) (e : Nat) (u : Nat) (w : Nat) (p : Nat) (he : am_ob h e 9) (hp0 : am_P h e 0 = some u) (hr : am_ay h u 1) (hrl : (am_sh h u).2.2 = 16) (h74 : 74 ≤ e) (h75 : 74 ≤ u) (hne : ¬ e = u) (hw9 : w < 16) : ∀ (m : Nat) (J : Nat → Nat → Int32), am_ty2 J → p + m < 16 → ef_ok J e u → (am_ty2 (E_in e u w p m J) → Q none (am_si h (E_in e u w p m J))) → am_wp d 107 5 [some (.ref e), some (.int (nI (w))), some (.int (nI (p))), some (.int (nI (p + m)))] [] (am_si h J) Q := by
  intro m
  induction m with
  | zero =>
    intro J hT hc0 hc1 HQ
    refine r_iload k107_5 rfl ?_
    refine r_iload k107_6 rfl ?_
    refine r_icmpleN (by omega) (by omega) k107_7 (fun z7 => ?_) (fun z7 => ?_)
    · refine r_aload k107_30 rfl ?_
      refine v_ref (b := u) k107_31 he rfl hp0 ?_
      refine r_iload k107_34 rfl ?_
      refine r_iload k107_35 rfl ?_
      refine v_ast (n := 16) (j := p) k107_36 hr hrl (by decide) rfl (by omega) ?_
      have hT36 : am_ty2 (am_u2 J u p (nI w)) := ty_w hT (tw_v (by omega))
      refine r_aload k107_37 rfl ?_
      refine r_dup rfl k107_38 ?_
      refine v_get (j := 1) (v := (nI (jn J e 1))) k107_39 he rfl ((congrFun (fr_u (by omega)) _).trans ((hc1.1 1 (by decide) (by decide)).1)) ?_
      refine r_pushn (v := nI 1) k107_42 rfl ?_
      refine r_iaddN k107_43 ?_
      refine v_put (j := 1) k107_44 he rfl rfl ?_
      have hT44 : am_ty2 (am_u2 (am_u2 J u p (nI w)) e 1 (nI ((jn J e 1) + 1))) := ty_w hT36 (tw_v (by omega))
      have e9 : E_in e u w p 0 J = (am_u2 (am_u2 J u p (nI w)) e 1 (nI ((jn J e 1) + 1))) := by rw [E_in]
      rw [e9] at HQ
      exact r_vret k107_47 rfl (HQ hT44)
    · exact absurd z7 (by omega)
  | succ m ih =>
    intro J hT hc0 hc1 HQ
    refine r_iload k107_5 rfl ?_
    refine r_iload k107_6 rfl ?_
    refine r_icmpleN (by omega) (by omega) k107_7 (fun z7 => ?_) (fun z7 => ?_)
    · exact absurd z7 (by omega)
    · refine r_aload k107_10 rfl ?_
      refine v_ref (b := u) k107_11 he rfl hp0 ?_
      refine r_iload k107_14 rfl ?_
      refine r_aload k107_15 rfl ?_
      refine v_ref (b := u) k107_16 he rfl hp0 ?_
      refine r_iload k107_19 rfl ?_
      refine r_pushn (v := nI 1) k107_20 rfl ?_
      refine r_isubN (by omega) k107_21 ?_
      have b22 := hc1.2 ((p + (m + 1)) - 1)
      refine v_ald (n := 16) (j := ((p + (m + 1)) - 1)) (v := (nI (jn J u ((p + (m + 1)) - 1)))) k107_22 hr hrl (by decide) rfl (by omega) (b22.1) ?_
      refine v_ast (n := 16) (j := (p + (m + 1))) k107_23 hr hrl (by decide) rfl (by omega) ?_
      have hT23 : am_ty2 (am_u2 J u ((p + (m + 1))) (nI (jn J u ((p + (m + 1)) - 1)))) := ty_w hT (tw_v (by omega))
      refine r_iinc (v := (nI (p + m))) (L' := [some (.ref e), some (.int (nI (w))), some (.int (nI (p))), some (.int (nI (p + m)))]) k107_24 rfl (Nat.le_of_ble_eq_true rfl) (am_pd_dec _) rfl ?_
      refine r_goto k107_27 ?_
      have e9 : E_in e u w p (m + 1) J = E_in e u w p m (am_u2 J u ((p + (m + 1))) (nI (jn J u ((p + (m + 1)) - 1)))) := by rw [E_in]
      rw [e9] at HQ
      exact ih (am_u2 J u ((p + (m + 1))) (nI (jn J u ((p + (m + 1)) - 1)))) hT23 (by omega) (ef_wr hc1 hne (hc1.2 _).2) HQ
theorem fl_E_in {e : Nat} {u : Nat} {w : Nat} {p : Nat} (q : Nat) (hq : ¬ q = e ∧ ¬ q = u) : ∀ (m : Nat) (J : Nat → Nat → Int32), (E_in e u w p m J) q = J q := by
  intro m
  induction m with
  | zero =>
    intro J
    rw [E_in]
    first | done | exact (fr_u (by omega)).trans (fr_u (by omega))
  | succ m ih =>
    intro J
    rw [E_in]
    first | done | exact (ih (am_u2 J u ((p + (m + 1))) (nI (jn J u ((p + (m + 1)) - 1))))).trans (fr_u (by omega))
noncomputable def E_ins (J : Nat → Nat → Int32) (e : Nat) (u : Nat) (w : Nat) (p : Nat) : (Nat → Nat → Int32) := E_in e u w p ((jn J e 1) - p) J
set_option maxRecDepth 20000 in
theorem s_E_ins {d : am_D} {h : am_H} {J : Nat → Nat → Int32} (hB : am_B h) (hT : am_ty2 J) (e : Nat) (u : Nat) (w : Nat) (p : Nat) (he : am_ob h e 9) (hp0 : am_P h e 0 = some u) (hr : am_ay h u 1) (hrl : (am_sh h u).2.2 = 16) (h74 : 74 ≤ e) (h75 : 74 ≤ u) (hne : ¬ e = u) (hE : ef_ok J e u) (hw9 : w < 16) (hp9 : p ≤ jn J e 1) (hs9 : jn J e 1 < 16) : am_wp d 107 0 [some (.ref e), some (.int (nI (w))), some (.int (nI (p))), none] [] (am_si h J) (fun r h' => r = none ∧ h' = am_si h (E_ins J e u w p) ∧ am_ty2 (E_ins J e u w p)) := by
  refine r_aload k107_0 rfl ?_
  refine v_get (j := 1) (v := (nI (jn J e 1))) k107_1 he rfl ((hE.1 1 (by decide) (by decide)).1) ?_
  refine r_istore (L' := [some (.ref e), some (.int (nI (w))), some (.int (nI (p))), some (.int (nI (jn J e 1)))]) k107_4 (Nat.le_of_ble_eq_true rfl) rfl ?_
  have e9 : (jn J e 1) = p + ((jn J e 1) - p) := by omega
  rw [show ([some (.ref e), some (.int (nI (w))), some (.int (nI (p))), some (.int (nI (jn J e 1)))] : am_L) = [some (.ref e), some (.int (nI (w))), some (.int (nI (p))), some (.int (nI (p + ((jn J e 1) - p))))] by rw [← e9]]
  exact l_E_in hB e u w p he hp0 hr hrl h74 h75 hne hw9 ((jn J e 1) - p) J hT (by omega) hE (fun hT9 => ⟨rfl, rfl, hT9⟩)
theorem fr_E_ins {J : Nat → Nat → Int32} {e : Nat} {u : Nat} {w : Nat} {p : Nat} (q : Nat) (hq : ¬ q = e ∧ ¬ q = u) : (E_ins J e u w p) q = J q := by
  unfold E_ins
  exact fl_E_in q (by omega) _ _
noncomputable def K_pf (e : Nat) (u : Nat) (w : Nat) (s0 : Nat) (bk : Nat) : Nat → Nat → (Nat → Nat → Int32) → Int32
  | 0, k, J => (((nI k)))
  | m + 1, k, J => (am_ite ((J 26 w) ≤ (J 26 (jn J u k))) (am_ite (0 = bk) (((nI k))) (K_pf e u w s0 bk m (k + 1) J)) (am_ite (1 = bk) (((nI k))) (K_pf e u w s0 bk m (k + 1) J)))
set_option maxRecDepth 20000 in
theorem l_K_pf {d : am_D} {h : am_H} {Q : Option Value → am_H → Prop} (hB : am_B h) (e : Nat) (u : Nat) (w : Nat) (s0 : Nat) (bk : Nat) (he : am_ob h e 9) (hp0 : am_P h e 0 = some u) (hr : am_ay h u 1) (hrl : (am_sh h u).2.2 = 16) (h74 : 74 ≤ e) (h75 : 74 ≤ u) (hne : ¬ e = u) (hw9 : w < 16) (hb9 : bk < 2) : ∀ (m k : Nat) (J : Nat → Nat → Int32), am_ty2 J → k + m = jn J e 1 → ef_ok J e u → jn J e 1 ≤ 16 → Q (some (.int (K_pf e u w s0 bk m k J))) (am_si h J) → am_wp d 138 3 [some (.ref 22), some (.int (nI (w))), some (.int (nI (s0))), some (.ref e), some (.int (nI (bk))), some (.int (nI (k)))] [] (am_si h J) Q := by
  intro m
  induction m with
  | zero =>
    intro k J hT hk hc0 hc1 HQ
    refine r_iload k138_3 rfl ?_
    refine r_aload k138_5 rfl ?_
    refine v_get (j := 1) (v := (nI (jn J e 1))) k138_6 he rfl ((hc0.1 1 (by decide) (by decide)).1) ?_
    refine r_icmpgeN (by omega) (by omega) k138_9 (fun z9 => ?_) (fun z9 => ?_)
    · refine r_iload k138_49 rfl ?_
      have e9 : K_pf e u w s0 bk 0 k J = (((nI k))) := by rw [K_pf]
      rw [e9] at HQ
      exact r_iret k138_51 rfl HQ
    · exact absurd z9 (by omega)
  | succ m ih =>
    intro k J hT hk hc0 hc1 HQ
    refine r_iload k138_3 rfl ?_
    refine r_aload k138_5 rfl ?_
    refine v_get (j := 1) (v := (nI (jn J e 1))) k138_6 he rfl ((hc0.1 1 (by decide) (by decide)).1) ?_
    refine r_icmpgeN (by omega) (by omega) k138_9 (fun z9 => ?_) (fun z9 => ?_)
    · exact absurd z9 (by omega)
    · refine r_aload k138_12 rfl ?_
      refine j_ref (b := 26) k138_13 hB rfl ?_
      refine r_aload k138_16 rfl ?_
      refine v_ref (b := u) k138_17 he rfl hp0 ?_
      refine r_iload k138_20 rfl ?_
      have b22 := hc0.2 k
      refine v_ald (n := 16) (j := k) (v := (nI (jn J u k))) k138_22 hr hrl (by decide) rfl (by omega) (b22.1) ?_
      refine j_ald (n := 16) (j := (jn J u k)) (v := (J 26 (jn J u k))) k138_23 hB rfl rfl (by omega) rfl ?_
      refine r_aload k138_24 rfl ?_
      refine j_ref (b := 26) k138_25 hB rfl ?_
      refine r_iload k138_28 rfl ?_
      refine j_ald (n := 16) (j := w) (v := (J 26 w)) k138_29 hB rfl rfl (by omega) rfl ?_
      refine r_icmpge k138_30 (fun z30 => ?_) (fun z30 => ?_)
      · refine r_pushn (v := nI 0) k138_37 rfl ?_
        refine r_iload k138_38 rfl ?_
        refine r_icmpeqN (by omega) (by omega) k138_40 (fun z40 => ?_) (fun z40 => ?_)
        · refine r_iload k138_49 rfl ?_
          have e9 : K_pf e u w s0 bk (m + 1) k J = (((nI k))) := by rw [K_pf]; rw [am_ite_t z30, am_ite_t z40]
          rw [e9] at HQ
          exact r_iret k138_51 rfl HQ
        · refine r_iinc (v := (nI (k + 1))) (L' := [some (.ref 22), some (.int (nI (w))), some (.int (nI (s0))), some (.ref e), some (.int (nI (bk))), some (.int (nI (k + 1)))]) k138_43 rfl (Nat.le_of_ble_eq_true rfl) (nI_1 _) rfl ?_
          refine r_goto k138_46 ?_
          have e9 : K_pf e u w s0 bk (m + 1) k J = K_pf e u w s0 bk m (k + 1) J := by rw [K_pf]; rw [am_ite_t z30, am_ite_f z40]
          rw [e9] at HQ
          exact ih (k + 1) J hT (by omega) hc0 hc1 HQ
      · refine r_pushn (v := nI 1) k138_33 rfl ?_
        refine r_goto k138_34 ?_
        refine r_iload k138_38 rfl ?_
        refine r_icmpeqN (by omega) (by omega) k138_40 (fun z40 => ?_) (fun z40 => ?_)
        · refine r_iload k138_49 rfl ?_
          have e9 : K_pf e u w s0 bk (m + 1) k J = (((nI k))) := by rw [K_pf]; rw [am_ite_f z30, am_ite_t z40]
          rw [e9] at HQ
          exact r_iret k138_51 rfl HQ
        · refine r_iinc (v := (nI (k + 1))) (L' := [some (.ref 22), some (.int (nI (w))), some (.int (nI (s0))), some (.ref e), some (.int (nI (bk))), some (.int (nI (k + 1)))]) k138_43 rfl (Nat.le_of_ble_eq_true rfl) (nI_1 _) rfl ?_
          refine r_goto k138_46 ?_
          have e9 : K_pf e u w s0 bk (m + 1) k J = K_pf e u w s0 bk m (k + 1) J := by rw [K_pf]; rw [am_ite_f z30, am_ite_f z40]
          rw [e9] at HQ
          exact ih (k + 1) J hT (by omega) hc0 hc1 HQ
noncomputable def K_place (J : Nat → Nat → Int32) (e : Nat) (u : Nat) (w : Nat) (s0 : Nat) (bk : Nat) : Int32 := (K_pf e u w s0 bk ((jn J e 1) - s0) s0 J)
set_option maxRecDepth 20000 in
theorem s_K_place {d : am_D} {h : am_H} {J : Nat → Nat → Int32} (hB : am_B h) (hT : am_ty2 J) (e : Nat) (u : Nat) (w : Nat) (s0 : Nat) (bk : Nat) (he : am_ob h e 9) (hp0 : am_P h e 0 = some u) (hr : am_ay h u 1) (hrl : (am_sh h u).2.2 = 16) (h74 : 74 ≤ e) (h75 : 74 ≤ u) (hne : ¬ e = u) (hE : ef_ok J e u) (hw9 : w < 16) (hb9 : bk < 2) (hs9 : s0 ≤ jn J e 1) : am_wp d 138 0 [some (.ref 22), some (.int (nI (w))), some (.int (nI (s0))), some (.ref e), some (.int (nI (bk))), none] [] (am_si h J) (fun r h' => r = some (.int (K_place J e u w s0 bk)) ∧ h' = (am_si h J)) := by
  refine r_iload k138_0 rfl ?_
  refine r_istore (L' := [some (.ref 22), some (.int (nI (w))), some (.int (nI (s0))), some (.ref e), some (.int (nI (bk))), some (.int (nI (s0)))]) k138_1 (Nat.le_of_ble_eq_true rfl) rfl ?_
  exact l_K_pf hB e u w s0 bk he hp0 hr hrl h74 h75 hne hw9 hb9 ((jn J e 1) - s0) s0 J hT (by omega) hE (hE.1 1 (by decide) (by decide)).2 ⟨rfl, rfl⟩
theorem K_pf_r {J : Nat → Nat → Int32} {e r w s0 bk : Nat} : ∀ m k, k + m = jn J e 1 → ∃ n, k ≤ n ∧ n ≤ jn J e 1 ∧ K_pf e r w s0 bk m k J = nI n := by
  intro m
  induction m with
  | zero => intro k hk; rw [K_pf]; exact ⟨k, by omega, by omega, rfl⟩
  | succ m ih =>
    intro k hk
    obtain ⟨n, a, b, c⟩ := ih (k + 1) (by omega)
    rw [K_pf]
    by_cases z1 : J 26 w ≤ J 26 (jn J r k)
    · rw [am_ite_t z1]
      by_cases z2 : 0 = bk
      · rw [am_ite_t z2]; exact ⟨k, by omega, by omega, rfl⟩
      · rw [am_ite_f z2]; exact ⟨n, by omega, b, c⟩
    · rw [am_ite_f z1]
      by_cases z2 : 1 = bk
      · rw [am_ite_t z2]; exact ⟨k, by omega, by omega, rfl⟩
      · rw [am_ite_f z2]; exact ⟨n, by omega, b, c⟩
