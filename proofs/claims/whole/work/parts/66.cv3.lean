/-! The class: finding anew. -/
theorem jn_cg {J K : Nat → Nat → Int32} {q j : Nat} (h : K q = J q) : jn K q j = jn J q j := by unfold jn; rw [h]
theorem cn_mono {p q : Nat → Prop} (h : ∀ i, p i → q i) : ∀ n, cn_of p n ≤ cn_of q n := by
  intro n
  induction n with
  | zero => exact Nat.le_refl _
  | succ n ih =>
    by_cases z : p n
    · rw [cn_t z, cn_t (h n z)]; omega
    · rw [cn_f z]
      by_cases y : q n
      · rw [cn_t y]; omega
      · rw [cn_f y]; exact ih
def cz (J : Nat → Nat → Int32) (e kd k B : Nat) : Prop := jn J e 1 + cn_of (fun i => jn J 18 i = kd ∧ k ≤ i) 16 ≤ B
theorem cz_lt {J : Nat → Nat → Int32} {e kd k B : Nat} (h : cz J e kd k B) (hB : B ≤ 16) (hk : k < 16) (hd : jn J 18 k = kd) : jn J e 1 < 16 := by
  have g := cn_pos (p := fun i => jn J 18 i = kd ∧ k ≤ i) (j := k) ⟨hd, Nat.le_refl k⟩ 16 hk
  unfold cz at h
  omega
theorem cz_sk {J : Nat → Nat → Int32} {e kd k B : Nat} (h : cz J e kd k B) : cz J e kd (k + 1) B := by
  have g := cn_mono (p := fun i => jn J 18 i = kd ∧ k + 1 ≤ i) (q := fun i => jn J 18 i = kd ∧ k ≤ i) (fun i q => ⟨q.1, by omega⟩) 16
  unfold cz at h ⊢
  omega
theorem cz_in {J K : Nat → Nat → Int32} {e kd k B : Nat} (h : cz J e kd k B) (hk : k < 16) (hd : jn J 18 k = kd) (h1 : jn K e 1 = jn J e 1 + 1) (h2 : K 18 = J 18) : cz K e kd (k + 1) B := by
  have g := cn_set (p := fun i => jn J 18 i = kd ∧ k + 1 ≤ i) (q := fun i => jn J 18 i = kd ∧ k ≤ i) (j := k) (fun q => by omega) ⟨hd, Nat.le_refl k⟩ 16 hk (fun i _ hi => ⟨fun q => ⟨q.1, by omega⟩, fun q => ⟨q.1, by omega⟩⟩)
  have e : ∀ i, jn K 18 i = jn J 18 i := fun i => by unfold jn; rw [h2]
  unfold cz at h ⊢
  rw [h1, cn_congr (q := fun i => jn J 18 i = kd ∧ k + 1 ≤ i) 16 (fun i _ => by rw [e i])]
  omega
theorem E_in_e {e u w p : Nat} (hne : ¬ e = u) : ∀ m J, jn J e 1 < 16 → jn (E_in e u w p m J) e 1 = jn J e 1 + 1 ∧ ∀ j, ¬ j = 1 → E_in e u w p m J e j = J e j := by
  intro m
  induction m with
  | zero =>
    intro J h
    rw [E_in]
    refine ⟨jn_u (by omega), fun j hj => ?_⟩
    rw [u2_ne hj, fr_u hne]
  | succ m ih =>
    intro J h
    rw [E_in]
    have e1 : am_u2 J u (p + (m + 1)) (nI (jn J u ((p + (m + 1)) - 1))) e = J e := fr_u hne
    have g := ih (am_u2 J u (p + (m + 1)) (nI (jn J u ((p + (m + 1)) - 1)))) (by rw [jn_cg e1]; exact h)
    rw [jn_cg e1] at g
    exact ⟨g.1, fun j hj => by rw [g.2 j hj, e1]⟩
theorem E_in_u {e u w p : Nat} (hne : ¬ e = u) : ∀ m J, (∀ j, J u j = nI (jn J u j)) → ∀ i, (i < p → E_in e u w p m J u i = J u i) ∧ (i = p → E_in e u w p m J u i = nI w) ∧ (p < i → i ≤ p + m → E_in e u w p m J u i = J u (i - 1)) ∧ (p + m < i → E_in e u w p m J u i = J u i) := by
  intro m
  induction m with
  | zero =>
    intro J hJ i
    rw [E_in, fr_u (fun q => hne q.symm)]
    refine ⟨fun q => u2_ne (by omega), fun q => by rw [q, am_u2_s], fun a b => absurd b (by omega), fun q => u2_ne (by omega)⟩
  | succ m ih =>
    intro J hJ i
    rw [E_in]
    have hJ2 : ∀ j, am_u2 J u (p + (m + 1)) (nI (jn J u ((p + (m + 1)) - 1))) u j = nI (jn (am_u2 J u (p + (m + 1)) (nI (jn J u ((p + (m + 1)) - 1)))) u j) := fun j => by
      by_cases q : j = p + (m + 1)
      · unfold jn
        rw [q, am_u2_s]
        have z := hJ ((p + (m + 1)) - 1)
        unfold jn at z
        rw [← z]
        exact z
      · unfold jn; rw [u2_ne q]; exact hJ j
    have g := ih _ hJ2 i
    refine ⟨fun q => ?_, fun q => ?_, fun a b => ?_, fun q => ?_⟩
    · rw [g.1 q, u2_ne (by omega)]
    · exact g.2.1 q
    · by_cases z : i ≤ p + m
      · rw [g.2.2.1 a z, u2_ne (by omega)]
      · have z2 : i = p + (m + 1) := by omega
        rw [g.2.2.2 (by omega), z2, am_u2_s, ← hJ]
    · rw [g.2.2.2 (by omega), u2_ne (by omega)]
theorem E_in_ok {e u w p : Nat} (hne : ¬ e = u) (hw : w < 16) : ∀ m J, jn J e 1 < 16 → ef_ok J e u → ef_ok (E_in e u w p m J) e u := by
  intro m
  induction m with
  | zero =>
    intro J h hE
    rw [E_in]
    exact ef_we (ef_wr hE hne hw) hne (by omega)
  | succ m ih =>
    intro J h hE
    rw [E_in]
    exact ih _ (by rw [jn_cg (fr_u hne)]; exact h) (ef_wr hE hne (hE.2 _).2)
theorem K_place_n {J : Nat → Nat → Int32} {e u w s0 bk : Nat} (h : s0 ≤ jn J e 1) (hb : jn J e 1 ≤ 16) : K_place J e u w s0 bk = nI (jx (K_place J e u w s0 bk)) ∧ s0 ≤ jx (K_place J e u w s0 bk) ∧ jx (K_place J e u w s0 bk) ≤ jn J e 1 := by
  obtain ⟨n, a, b, c⟩ := K_pf_r (J := J) (e := e) (r := u) (w := w) (s0 := s0) (bk := bk) ((jn J e 1) - s0) s0 (by omega)
  unfold K_place
  rw [c, jx_nI (by omega)]
  exact ⟨rfl, a, b⟩
noncomputable def K_ak (e : Nat) (u : Nat) (kind : Nat) (s0 : Nat) : Nat → Nat → (Nat → Nat → Int32) → (Nat → Nat → Int32)
  | 0, k, J => (J)
  | m + 1, k, J => (am_ite ((J 26 k) < 0) (K_ak e u kind s0 m (k + 1) J) (am_ite ((jn J 18 k) = kind) (am_ite (kind = 2) (K_ak e u kind s0 m (k + 1) (E_ins J e u k (jx (K_place J e u k s0 1)))) (K_ak e u kind s0 m (k + 1) (E_ins J e u k (jx (K_place J e u k s0 0))))) (K_ak e u kind s0 m (k + 1) J)))
set_option maxRecDepth 20000 in
theorem l_K_ak {d : am_D} {h : am_H} {Q : Option Value → am_H → Prop} (hB : am_B h) (e : Nat) (u : Nat) (kind : Nat) (s0 : Nat) (he : am_ob h e 9) (hp0 : am_P h e 0 = some u) (hr : am_ay h u 1) (hrl : (am_sh h u).2.2 = 16) (h74 : 74 ≤ e) (h75 : 74 ≤ u) (hne : ¬ e = u) (hk9 : kind < 4) (B : Nat) (hB9 : B ≤ 16) (hd : 1 ≤ d.1) (hw : 25 ≤ d.2) : ∀ (m k : Nat) (J : Nat → Nat → Int32), am_ty2 J → k + m = 16 → ef_ok J e u → cz J e kind k B → s0 ≤ jn J e 1 → (am_ty2 (K_ak e u kind s0 m k J) → Q none (am_si h (K_ak e u kind s0 m k J))) → am_wp d 137 8 [some (.ref 22), some (.int (nI (kind))), some (.ref e), some (.int (nI (s0))), some (.int (nI (k)))] [] (am_si h J) Q := by
  intro m
  induction m with
  | zero =>
    intro k J hT hk hc0 hc1 hc2 HQ
    refine r_iload k137_8 rfl ?_
    refine r_pushn (v := nI 16) k137_10 rfl ?_
    refine r_icmpgeN (by omega) (by omega) k137_12 (fun z12 => ?_) (fun z12 => ?_)
    · have e9 : K_ak e u kind s0 0 k J = (J) := by rw [K_ak]
      rw [e9] at HQ
      exact r_vret k137_68 rfl (HQ hT)
    · exact absurd z12 (by omega)
  | succ m ih =>
    intro k J hT hk hc0 hc1 hc2 HQ
    refine r_iload k137_8 rfl ?_
    refine r_pushn (v := nI 16) k137_10 rfl ?_
    refine r_icmpgeN (by omega) (by omega) k137_12 (fun z12 => ?_) (fun z12 => ?_)
    · exact absurd z12 (by omega)
    · refine r_aload k137_15 rfl ?_
      refine j_ref (b := 26) k137_16 hB rfl ?_
      refine r_iload k137_19 rfl ?_
      refine j_ald (n := 16) (j := k) (v := (J 26 k)) k137_21 hB rfl rfl (by omega) rfl ?_
      refine r_iflt k137_22 (fun z22 => ?_) (fun z22 => ?_)
      · refine r_iinc (v := (nI (k + 1))) (L' := [some (.ref 22), some (.int (nI (kind))), some (.ref e), some (.int (nI (s0))), some (.int (nI (k + 1)))]) k137_62 rfl (Nat.le_of_ble_eq_true rfl) (nI_1 _) rfl ?_
        refine r_goto k137_65 ?_
        have e9 : K_ak e u kind s0 (m + 1) k J = K_ak e u kind s0 m (k + 1) J := by rw [K_ak]; rw [am_ite_t z22]
        rw [e9] at HQ
        exact ih (k + 1) J hT (by omega) hc0 (cz_sk hc1) hc2 HQ
      · refine r_aload k137_25 rfl ?_
        refine j_ref (b := 15) k137_26 hB rfl ?_
        refine r_iload k137_29 rfl ?_
        refine j_call (ml := 2) k137_31 rfl (show 0 < d.1 by omega) (show 19 + 2 ≤ d.2 by omega) ⟨Nat.le_of_ble_eq_true rfl, Nat.le_of_ble_eq_true rfl, am_obB hB rfl, Nat.le_of_ble_eq_true rfl⟩ rfl (rest := []) rfl (s_M_kind hB hT k (by omega)) (fun r h1 hq => ?_)
        obtain ⟨rfl, rfl⟩ := hq
        show am_wp _ _ _ [some (.ref 22), some (.int (nI (kind))), some (.ref e), some (.int (nI (s0))), some (.int (nI (k)))] [.int (M_kind J k)] _ _
        rw [show M_kind J k = nI (jn J 18 k) from rfl]
        have b31 := ty_n hT (q := 18) (B := 4) (by decide) (by decide) k
        refine r_iload k137_34 rfl ?_
        refine r_icmpneN (by omega) (by omega) k137_35 (fun z35 => ?_) (fun z35 => ?_)
        · refine r_iinc (v := (nI (k + 1))) (L' := [some (.ref 22), some (.int (nI (kind))), some (.ref e), some (.int (nI (s0))), some (.int (nI (k + 1)))]) k137_62 rfl (Nat.le_of_ble_eq_true rfl) (nI_1 _) rfl ?_
          refine r_goto k137_65 ?_
          have e9 : K_ak e u kind s0 (m + 1) k J = K_ak e u kind s0 m (k + 1) J := by rw [K_ak]; rw [am_ite_f z22, am_ite_f z35]
          rw [e9] at HQ
          exact ih (k + 1) J hT (by omega) hc0 (cz_sk hc1) hc2 HQ
        · refine r_aload k137_38 rfl ?_
          refine r_iload k137_39 rfl ?_
          refine r_aload k137_41 rfl ?_
          refine r_iload k137_42 rfl ?_
          refine r_iload k137_44 rfl ?_
          refine r_aload k137_45 rfl ?_
          refine r_iload k137_46 rfl ?_
          refine r_pushn (v := nI 2) k137_47 rfl ?_
          refine r_icmpneN (by omega) (by omega) k137_48 (fun z48 => ?_) (fun z48 => ?_)
          · refine r_pushn (v := nI 0) k137_55 rfl ?_
            refine j_call (ml := 6) k137_56 rfl (show 0 < d.1 by omega) (show 19 + 6 ≤ d.2 by omega) ⟨Nat.le_of_ble_eq_true rfl, Nat.le_of_ble_eq_true rfl, am_obB hB rfl, Nat.le_of_ble_eq_true rfl⟩ rfl (rest := [.int (nI (k)), .ref e]) rfl (s_K_place hB hT e u k s0 0 (he) (hp0) (hr) (hrl) (h74) (h75) (hne) (hc0) (by omega) (by omega) (hc2)) (fun r h1 hq => ?_)
            obtain ⟨rfl, rfl⟩ := hq
            show am_wp _ _ _ [some (.ref 22), some (.int (nI (kind))), some (.ref e), some (.int (nI (s0))), some (.int (nI (k)))] [.int (K_place J e u k s0 0), .int (nI (k)), .ref e] _ _
            have b56 := K_place_n (u := u) (w := k) (bk := 0) hc2 (hc0.1 1 (by decide) (by decide)).2
            rw [b56.1]
            refine j_call (ml := 4) k137_59 rfl (show 0 < d.1 by omega) (show 19 + 4 ≤ d.2 by omega) ⟨Nat.le_of_ble_eq_true rfl, Nat.le_of_ble_eq_true rfl, he, Nat.le_of_ble_eq_true rfl⟩ rfl (rest := []) rfl (s_E_ins hB hT e u k (jx (K_place J e u k s0 0)) (he) (hp0) (hr) (hrl) (h74) (h75) (hne) (hc0) (by omega) (b56.2.2) (cz_lt hc1 hB9 (by omega) z35)) (fun r h1 hq => ?_)
            obtain ⟨rfl, rfl, hT59⟩ := hq
            show am_wp _ _ _ [some (.ref 22), some (.int (nI (kind))), some (.ref e), some (.int (nI (s0))), some (.int (nI (k)))] [] _ _
            refine r_iinc (v := (nI (k + 1))) (L' := [some (.ref 22), some (.int (nI (kind))), some (.ref e), some (.int (nI (s0))), some (.int (nI (k + 1)))]) k137_62 rfl (Nat.le_of_ble_eq_true rfl) (nI_1 _) rfl ?_
            refine r_goto k137_65 ?_
            have e9 : K_ak e u kind s0 (m + 1) k J = K_ak e u kind s0 m (k + 1) (E_ins J e u k (jx (K_place J e u k s0 0))) := by rw [K_ak]; rw [am_ite_f z22, am_ite_t z35, am_ite_f z48]
            rw [e9] at HQ
            exact ih (k + 1) (E_ins J e u k (jx (K_place J e u k s0 0))) hT59 (by omega) (E_in_ok hne (by omega) _ _ (cz_lt hc1 hB9 (by omega) z35) hc0) (cz_in hc1 (by omega) z35 (E_in_e hne _ _ (cz_lt hc1 hB9 (by omega) z35)).1 (fr_E_ins 18 (by omega))) (Nat.le_trans hc2 (by rw [show jn (E_ins J e u k (jx (K_place J e u k s0 0))) e 1 = jn J e 1 + 1 from (E_in_e hne _ _ (cz_lt hc1 hB9 (by omega) z35)).1]; omega)) HQ
          · refine r_pushn (v := nI 1) k137_51 rfl ?_
            refine r_goto k137_52 ?_
            refine j_call (ml := 6) k137_56 rfl (show 0 < d.1 by omega) (show 19 + 6 ≤ d.2 by omega) ⟨Nat.le_of_ble_eq_true rfl, Nat.le_of_ble_eq_true rfl, am_obB hB rfl, Nat.le_of_ble_eq_true rfl⟩ rfl (rest := [.int (nI (k)), .ref e]) rfl (s_K_place hB hT e u k s0 1 (he) (hp0) (hr) (hrl) (h74) (h75) (hne) (hc0) (by omega) (by omega) (hc2)) (fun r h1 hq => ?_)
            obtain ⟨rfl, rfl⟩ := hq
            show am_wp _ _ _ [some (.ref 22), some (.int (nI (kind))), some (.ref e), some (.int (nI (s0))), some (.int (nI (k)))] [.int (K_place J e u k s0 1), .int (nI (k)), .ref e] _ _
            have b56 := K_place_n (u := u) (w := k) (bk := 1) hc2 (hc0.1 1 (by decide) (by decide)).2
            rw [b56.1]
            refine j_call (ml := 4) k137_59 rfl (show 0 < d.1 by omega) (show 19 + 4 ≤ d.2 by omega) ⟨Nat.le_of_ble_eq_true rfl, Nat.le_of_ble_eq_true rfl, he, Nat.le_of_ble_eq_true rfl⟩ rfl (rest := []) rfl (s_E_ins hB hT e u k (jx (K_place J e u k s0 1)) (he) (hp0) (hr) (hrl) (h74) (h75) (hne) (hc0) (by omega) (b56.2.2) (cz_lt hc1 hB9 (by omega) z35)) (fun r h1 hq => ?_)
            obtain ⟨rfl, rfl, hT59⟩ := hq
            show am_wp _ _ _ [some (.ref 22), some (.int (nI (kind))), some (.ref e), some (.int (nI (s0))), some (.int (nI (k)))] [] _ _
            refine r_iinc (v := (nI (k + 1))) (L' := [some (.ref 22), some (.int (nI (kind))), some (.ref e), some (.int (nI (s0))), some (.int (nI (k + 1)))]) k137_62 rfl (Nat.le_of_ble_eq_true rfl) (nI_1 _) rfl ?_
            refine r_goto k137_65 ?_
            have e9 : K_ak e u kind s0 (m + 1) k J = K_ak e u kind s0 m (k + 1) (E_ins J e u k (jx (K_place J e u k s0 1))) := by rw [K_ak]; rw [am_ite_f z22, am_ite_t z35, am_ite_t z48]
            rw [e9] at HQ
            exact ih (k + 1) (E_ins J e u k (jx (K_place J e u k s0 1))) hT59 (by omega) (E_in_ok hne (by omega) _ _ (cz_lt hc1 hB9 (by omega) z35) hc0) (cz_in hc1 (by omega) z35 (E_in_e hne _ _ (cz_lt hc1 hB9 (by omega) z35)).1 (fr_E_ins 18 (by omega))) (Nat.le_trans hc2 (by rw [show jn (E_ins J e u k (jx (K_place J e u k s0 1))) e 1 = jn J e 1 + 1 from (E_in_e hne _ _ (cz_lt hc1 hB9 (by omega) z35)).1]; omega)) HQ
theorem fl_K_ak {e : Nat} {u : Nat} {kind : Nat} {s0 : Nat} (q : Nat) (hq : ¬ q = e ∧ ¬ q = u) : ∀ (m k : Nat) (J : Nat → Nat → Int32), (K_ak e u kind s0 m k J) q = J q := by
  intro m
  induction m with
  | zero =>
    intro k J
    rw [K_ak]
    first | done | exact rfl
  | succ m ih =>
    intro k J
    rw [K_ak]
    refine fr_i0 (fun _ => ?_) (fun _ => ?_)
    · exact ih (k + 1) J
    · refine fr_i0 (fun _ => ?_) (fun _ => ?_)
      · refine fr_i0 (fun _ => ?_) (fun _ => ?_)
        · exact (ih (k + 1) (E_ins J e u k (jx (K_place J e u k s0 1)))).trans (fr_E_ins q (by omega))
        · exact (ih (k + 1) (E_ins J e u k (jx (K_place J e u k s0 0)))).trans (fr_E_ins q (by omega))
      · exact ih (k + 1) J
theorem K_ak_inv {e u kind s0 B : Nat} (hne : ¬ e = u) (h74 : 74 ≤ e) (h75 : 74 ≤ u) (hB9 : B ≤ 16) : ∀ m k J, k + m = 16 → ef_ok J e u → cz J e kind k B → s0 ≤ jn J e 1 → ef_ok (K_ak e u kind s0 m k J) e u ∧ jn (K_ak e u kind s0 m k J) e 1 ≤ B ∧ ∀ j, ¬ j = 1 → K_ak e u kind s0 m k J e j = J e j := by
  intro m
  induction m with
  | zero => intro k J hk hc0 hc1 hc2; rw [K_ak]; refine ⟨hc0, ?_, fun j _ => rfl⟩; unfold cz at hc1; omega
  | succ m ih =>
    intro k J hk hc0 hc1 hc2
    rw [K_ak]
    by_cases z1 : J 26 k < 0
    · rw [am_ite_t z1]; exact ih (k + 1) J (by omega) hc0 (cz_sk hc1) hc2
    · rw [am_ite_f z1]
      by_cases z35 : jn J 18 k = kind
      · rw [am_ite_t z35]
        have l := cz_lt hc1 hB9 (by omega) z35
        have key : ∀ p, ef_ok (K_ak e u kind s0 m (k + 1) (E_ins J e u k p)) e u ∧ jn (K_ak e u kind s0 m (k + 1) (E_ins J e u k p)) e 1 ≤ B ∧ ∀ j, ¬ j = 1 → K_ak e u kind s0 m (k + 1) (E_ins J e u k p) e j = J e j := fun p => by
          have g := E_in_e (w := k) (p := p) hne ((jn J e 1) - p) J l
          have q := ih (k + 1) (E_ins J e u k p) (by omega) (E_in_ok hne (by omega) _ _ l hc0) (cz_in hc1 (by omega) z35 g.1 (fr_E_ins 18 (by omega))) (Nat.le_trans hc2 (by rw [show jn (E_ins J e u k p) e 1 = jn J e 1 + 1 from g.1]; omega))
          exact ⟨q.1, q.2.1, fun j hj => (q.2.2 j hj).trans (g.2 j hj)⟩
        by_cases z2 : kind = 2
        · rw [am_ite_t z2]; exact key _
        · rw [am_ite_f z2]; exact key _
      · rw [am_ite_f z35]; exact ih (k + 1) J (by omega) hc0 (cz_sk hc1) hc2
noncomputable def K_add (J : Nat → Nat → Int32) (e : Nat) (u : Nat) (kind : Nat) : (Nat → Nat → Int32) := K_ak e u kind (jn J e 1) 16 0 J
set_option maxRecDepth 20000 in
theorem s_K_add {d : am_D} {h : am_H} {J : Nat → Nat → Int32} (hB : am_B h) (hT : am_ty2 J) (e : Nat) (u : Nat) (kind : Nat) (he : am_ob h e 9) (hp0 : am_P h e 0 = some u) (hr : am_ay h u 1) (hrl : (am_sh h u).2.2 = 16) (h74 : 74 ≤ e) (h75 : 74 ≤ u) (hne : ¬ e = u) (hE : ef_ok J e u) (hk9 : kind < 4) (B : Nat) (hB9 : B ≤ 16) (hz : cz J e kind 0 B) (hd : 1 ≤ d.1) (hw : 25 ≤ d.2) : am_wp d 137 0 [some (.ref 22), some (.int (nI (kind))), some (.ref e), none, none] [] (am_si h J) (fun r h' => r = none ∧ h' = am_si h (K_add J e u kind) ∧ am_ty2 (K_add J e u kind)) := by
  refine r_aload k137_0 rfl ?_
  refine v_get (j := 1) (v := (nI (jn J e 1))) k137_1 he rfl ((hE.1 1 (by decide) (by decide)).1) ?_
  refine r_istore (L' := [some (.ref 22), some (.int (nI (kind))), some (.ref e), some (.int (nI (jn J e 1))), none]) k137_4 (Nat.le_of_ble_eq_true rfl) rfl ?_
  refine r_pushn (v := nI 0) k137_5 rfl ?_
  refine r_istore (L' := [some (.ref 22), some (.int (nI (kind))), some (.ref e), some (.int (nI (jn J e 1))), some (.int (nI 0))]) k137_6 (Nat.le_of_ble_eq_true rfl) rfl ?_
  exact l_K_ak hB e u kind (jn J e 1) he hp0 hr hrl h74 h75 hne hk9 B hB9 hd hw 16 0 J hT (by omega) hE hz (Nat.le_refl _) (fun hT9 => ⟨rfl, rfl, hT9⟩)
theorem fr_K_add {J : Nat → Nat → Int32} {e : Nat} {u : Nat} {kind : Nat} (q : Nat) (hq : ¬ q = e ∧ ¬ q = u) : (K_add J e u kind) q = J q := by
  unfold K_add
  exact fl_K_ak q (by omega) _ _ _
