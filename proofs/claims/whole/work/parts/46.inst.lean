/-! Instances: touch, make, become, get, put, unbind answer alike. -/
theorem rl_C_cg {K L K' L' : Nat → Nat → Int32} (h : rl_C K L) (h1 : ∀ q, 3 ≤ q → q < 8 → K' q = K q) (h2 : ∀ q, 37 ≤ q → q < 45 → L' q = L q) : rl_C K' L' := by
  obtain ⟨a, b, c, d, e, f⟩ := h
  refine ⟨by rw [h1 6 (by decide) (by decide), h2 43 (by decide) (by decide)]; exact a, by rw [h1 7 (by decide) (by decide), h2 44 (by decide) (by decide)]; exact b, by rw [h1 5 (by decide) (by decide), h2 40 (by decide) (by decide)]; exact c, by rw [h1 4 (by decide) (by decide), h2 39 (by decide) (by decide)]; exact d, by rw [h1 3 (by decide) (by decide), h2 38 (by decide) (by decide)]; exact e, fun i => ?_⟩
  have g := f i
  unfold jn at g ⊢
  rw [h1 5 (by decide) (by decide), h2 37 (by decide) (by decide)]
  exact g
theorem rl_tlne {i j : Nat} (hj : ¬ j = i) {old : Int32} : ∀ m k K loc, (I_tl i old m k K loc).1 13 j = K 13 j := by
  intro m
  induction m with
  | zero => intro k K loc; rw [I_tl]
  | succ m ih =>
    intro k K loc
    rw [I_tl]
    by_cases z1 : (C_holder K (jn K 11 i) k) = ((-1))
    · rw [am_ite_t z1, ih, u2_ne hj]
    · rw [am_ite_f z1]
      by_cases z2 : (C_shared K (jx (C_holder K (jn K 11 i) k)) k)
      · rw [am_ite_t z2, ih, u2_ne hj]
      · rw [am_ite_f z2]
        by_cases z3 : (w_isin old (nI k))
        · rw [am_ite_t z3, ih]
        · rw [am_ite_f z3]
          by_cases z4 : (C_init K (jx (C_holder K (jn K 11 i) k)) k)
          · rw [am_ite_t z4, ih]
            unfold I_setVal
            rw [u2_ne hj]
            rfl
          · rw [am_ite_f z4, ih]
/-- what touch and follow leave of an instance -/
theorem rl_follow {K L : Nat → Nat → Int32} (hK : am_ty2 K) (hC : rl_C K L) (h11 : K 11 = L 45) (h12 : K 12 = L 46) (h13 : K 13 = L 47) (h14 : K 14 = L 48) (hb : ∀ i n, n < 6 → (K 12 i) &&& ((nI 1) <<< ((nI n) &&& 31)) = 0 → (K 13 i) &&& ((nI 1) <<< ((nI n) &&& 31)) = 0) (i : Nat) : (I_touch K i).2 12 = R_follow L i 46 ∧ (I_touch K i).2 13 = R_follow L i 47 ∧ (I_touch K i).2 14 = R_follow L i 48 ∧ (∀ j n, n < 6 → ((I_touch K i).2 12 j) &&& ((nI 1) <<< ((nI n) &&& 31)) = 0 → ((I_touch K i).2 13 j) &&& ((nI 1) <<< ((nI n) &&& 31)) = 0) ∧ (∀ j, ¬ j = i → (I_touch K i).2 12 j = K 12 j ∧ (I_touch K i).2 13 j = K 13 j) ∧ (I_touch K i).1 = am_ite ((L 46 i) = (R_locals L (jn L 45 i))) (nI 0) (nI 1) := by
  have hl := rl_layout hK hC h11 (i := i) (old := K 12 i)
  have hf := rl_fl hK hC (i := i) (c := jn K 11 i) (old := K 12 i) (now := R_locals L (jn L 45 i)) rfl (jn_e h11) (by rw [jn_e h11]) (by rw [h12]) 6 0 K L (nI 0) (by omega) ⟨rfl, rfl, rfl, rfl, rfl⟩ ⟨rfl, rfl, rfl, rfl, rfl, rfl⟩ h13 h14 ⟨fun n _ h2 h3 => hb i n h2 h3, fun n h1 => absurd h1 (by omega)⟩
  have hs : (I_touch K i).2 = am_u2 ((I_tl i (K 12 i) 6 0 K (nI 0)).1) 12 i (R_locals L (jn L 45 i)) := by
    unfold I_touch
    rw [hl]
    by_cases z : (R_locals L (jn L 45 i)) = (K 12 i)
    · rw [am_ite_t z]
    · rw [am_ite_f z]
  have h1 : (I_touch K i).1 = am_ite ((L 46 i) = (R_locals L (jn L 45 i))) (nI 0) (nI 1) := by
    unfold I_touch
    rw [hl, h12]
    by_cases z : (R_locals L (jn L 45 i)) = (L 46 i)
    · rw [am_ite_t z, am_ite_t z.symm]
    · rw [am_ite_f z, am_ite_f (fun q => z q.symm)]
  rw [hs, h1]
  unfold R_follow
  obtain ⟨f1, f2, f3⟩ := hf
  refine ⟨?_, f1, f2, fun j n h2 h3 => ?_, fun j hj => ⟨?_, ?_⟩, rfl⟩
  · refine u2_eq ?_ rfl
    rw [fl_I_tl 12 (by omega), fl_R_fl 46 (by omega)]; exact h12
  · show ((I_tl i (K 12 i) 6 0 K (nI 0)).1 13 j) &&& _ = 0
    by_cases e : j = i
    · rw [e] at h3 ⊢
      rw [am_u2_s] at h3
      exact f3.2 n h2 h3
    · rw [u2_ne e, fl_I_tl 12 (by omega)] at h3
      rw [rl_tlne e]
      exact hb j n h2 h3
  · rw [u2_ne hj, fl_I_tl 12 (by omega)]
  · exact rl_tlne hj _ _ _ _
theorem R_lc_congr {J K : Nat → Nat → Int32} (h1 : K 39 = J 39) (h2 : K 43 = J 43) (h3 : K 40 = J 40) {c : Nat} : ∀ m k w, R_lc c m k K w = R_lc c m k J w := by
  intro m
  induction m with
  | zero => intro k w; rfl
  | succ m ih =>
    intro k w
    rw [R_lc, R_lc, R_slotOf_congr h1 h2 h3, ih, ih]
    unfold jn
    rw [h2]
theorem R_locals_congr {J K : Nat → Nat → Int32} (h1 : K 39 = J 39) (h2 : K 43 = J 43) (h3 : K 40 = J 40) {c : Nat} : R_locals K c = R_locals J c := R_lc_congr h1 h2 h3 _ _ _
noncomputable def I_t1 (K : Nat → Nat → Int32) (i : Nat) : Nat → Nat → Int32 := am_u2 ((I_touch K i).2) 10 6 ((K 10 6) + ((I_touch K i).1))
theorem R_touch_cell {L : Nat → Nat → Int32} {i : Nat} (q : Nat) (hq : ¬ q = 73) : R_touch L i q = R_follow L i q := by
  unfold R_touch
  by_cases z : (L 46 i) = (R_locals L (jn L 45 i))
  · rw [am_ite_t z]
  · rw [am_ite_f z]
    unfold R_follow
    have e : R_locals (am_u2 L 73 7 ((L 73 7) + (nI 1))) (jn (am_u2 L 73 7 ((L 73 7) + (nI 1))) 45 i) = R_locals L (jn L 45 i) := R_locals_congr (J := L) (K := am_u2 L 73 7 ((L 73 7) + (nI 1))) (c := jn L 45 i) (fr_u (by decide)) (fr_u (by decide)) (fr_u (by decide))
    rw [e]
    have h : ∀ now m k M M', (∀ q, ¬ q = 73 → M q = M' q) → ∀ q, ¬ q = 73 → R_fl i now m k M q = R_fl i now m k M' q := by
      intro now m
      induction m with
      | zero => intro k M M' h q hq; rw [R_fl, R_fl]; exact h q hq
      | succ m ih =>
        intro k M M' h q hq
        have e43 : M 43 = M' 43 := h 43 (by decide)
        have e44 : M 44 = M' 44 := h 44 (by decide)
        have e45 : jn M 45 i = jn M' 45 i := by unfold jn; rw [h 45 (by decide)]
        have e46 : M 46 = M' 46 := h 46 (by decide)
        have e47 : M 47 = M' 47 := h 47 (by decide)
        have es : R_slotOf M (jn M' 45 i) k = R_slotOf M' (jn M' 45 i) k := R_slotOf_congr (h 39 (by decide)) e43 (h 40 (by decide))
        have ej : jn M 43 (jx (R_slotOf M' (jn M' 45 i) k)) = jn M' 43 (jx (R_slotOf M' (jn M' 45 i) k)) := by unfold jn; rw [e43]
        have up : ∀ {A B : Nat → Nat → Int32} {c j : Nat} {x : Int32}, (∀ q, ¬ q = 73 → A q = B q) → ∀ q, ¬ q = 73 → am_u2 A c j x q = am_u2 B c j x q := by
          intro A B c j x hh q hq
          funext b
          show (if q = c then (if b = j then x else A q b) else A q b) = (if q = c then (if b = j then x else B q b) else B q b)
          rw [hh q hq]
        rw [R_fl, R_fl, e45, es, ej, e44, e46, e47]
        by_cases z1 : (now &&& ((nI 1) <<< ((nI k) &&& 31))) = 0
        · rw [am_ite_t z1, am_ite_t z1]; exact ih _ _ _ (up h) q hq
        · rw [am_ite_f z1, am_ite_f z1]
          by_cases z2 : ((M' 46 i) &&& ((nI 1) <<< ((nI k) &&& 31))) = 0
          · rw [am_ite_t z2, am_ite_t z2]
            by_cases z3 : (jn M' 43 (jx (R_slotOf M' (jn M' 45 i) k))) = 1
            · rw [am_ite_t z3, am_ite_t z3]; exact ih _ _ _ (up (up h)) q hq
            · rw [am_ite_f z3, am_ite_f z3]; exact ih _ _ _ (up h) q hq
          · rw [am_ite_f z2, am_ite_f z2]; exact ih _ _ _ h q hq
    have g := h (R_locals L (jn L 45 i)) 6 0 (am_u2 L 73 7 ((L 73 7) + (nI 1))) L (fun q hq => fr_u hq) q hq
    funext b
    show (if q = 46 then (if b = i then _ else _) else _) = (if q = 46 then (if b = i then _ else _) else _)
    rw [g]
theorem R_touch_73 {L : Nat → Nat → Int32} {i : Nat} : R_touch L i 73 = am_u2 L 73 7 ((L 73 7) + (am_ite ((L 46 i) = (R_locals L (jn L 45 i))) (nI 0) (nI 1))) 73 := by
  unfold R_touch
  by_cases z : (L 46 i) = (R_locals L (jn L 45 i))
  · rw [am_ite_t z, am_ite_t z, fr_R_follow 73 (by omega)]
    funext b
    by_cases e : b = 7
    · rw [e, am_u2_s, show nI 0 = (0 : Int32) from rfl, Int32.add_zero]
    · rw [u2_ne e]
  · rw [am_ite_f z, am_ite_f z, fr_R_follow 73 (by omega)]
/-- touch keeps instances and classes alike -/
theorem rl_touch {K L : Nat → Nat → Int32} (hK : am_ty2 K) (hC : rl_C K L) (hI : rl_I K L) {i : Nat} (hi : i < jn K 10 5) : rl_C (I_t1 K i) (R_touch L i) ∧ rl_I (I_t1 K i) (R_touch L i) := by
  obtain ⟨h11, h12, h13, h14, h5, h6, hb, hz⟩ := hI
  obtain ⟨f12, f13, f14, fb, fj, f1⟩ := rl_follow hK hC h11 h12 h13 h14 hb i
  unfold I_t1
  refine ⟨rl_C_cg hC (fun q h1 h2 => ?_) (fun q h1 h2 => fr_R_touch q (by omega)), ?_, ?_, ?_, ?_, ?_, ?_, fb, fun j hj => ?_⟩
  · rw [fr_u (by omega)]; exact fr_I_touch q (by omega)
  · rw [fr_u (by decide), fr_I_touch 11 (by omega), fr_R_touch 45 (by omega)]; exact h11
  · rw [R_touch_cell 46 (by decide)]; exact f12
  · rw [R_touch_cell 47 (by decide)]; exact f13
  · rw [R_touch_cell 48 (by decide)]; exact f14
  · rw [u2_ne (by decide), fr_I_touch 10 (by omega), fr_R_touch 36 (by omega)]; exact h5
  · rw [am_u2_s, R_touch_73, am_u2_s, f1, h6]
  · have e : jn (am_u2 ((I_touch K i).2) 10 6 ((K 10 6) + ((I_touch K i).1))) 10 5 = jn K 10 5 := by
      unfold jn; rw [u2_ne (by decide), fr_I_touch 10 (by omega)]
    rw [e] at hj
    have g := fj j (by omega)
    have g2 := hz j hj
    exact ⟨g.1.trans g2.1, g.2.trans g2.2⟩
