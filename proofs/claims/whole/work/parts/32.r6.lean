/-! The reference: arrange, whole. A run that would not end is none. -/
theorem R_x2_r {c n p : Nat} {set left fr : Int32} {J : Nat → Nat → Int32} (hT : am_ty2 J) : ∀ m k nx, (nx = -1 ∨ ∃ n, n < 12 ∧ nx = nI n) → (R_x2 c set n left fr p m k J nx = -1 ∨ ∃ q, q < 12 ∧ R_x2 c set n left fr p m k J nx = nI q) := by
  intro m
  induction m with
  | zero => intro k nx h; exact h
  | succ m ih =>
    intro k nx h
    rw [R_x2]
    by_cases z1 : (J 41 ((3 * (jn J 42 p)) + k)) < 0
    · rw [am_ite_t z1]; exact ih (k + 1) nx h
    · rw [am_ite_f z1]
      have b := ty_ml hT (q := 41) (B := 12) (by decide) (by decide) _ z1
      by_cases z2 : ((fr >>> ((nI (jn J 41 ((3 * (jn J 42 p)) + k))) &&& 31)) &&& (nI 1)) = (nI 1)
      · rw [am_ite_t z2]; exact ih (k + 1) _ (Or.inr ⟨_, b.2, rfl⟩)
      · rw [am_ite_f z2]; exact ih (k + 1) nx h
theorem R_x1_r {c n : Nat} {set left fr : Int32} {J : Nat → Nat → Int32} (hT : am_ty2 J) : ∀ m nx, (nx = -1 ∨ ∃ n, n < 12 ∧ nx = nI n) → (R_x1 c set n left fr m J nx = -1 ∨ ∃ q, q < 12 ∧ R_x1 c set n left fr m J nx = nI q) := by
  intro m
  induction m with
  | zero => intro nx h; exact h
  | succ m ih =>
    intro nx h
    rw [R_x1]
    by_cases z1 : 0 ≤ nx
    · rw [am_ite_t z1]; exact h
    · rw [am_ite_f z1]; exact ih _ (R_x2_r hT 3 0 nx h)
theorem am_mnl {x : Int32} {B : Nat} (hB : B < 5000) (h : x = -1 ∨ ∃ n, n < B ∧ x = nI n) (z : ¬ x < 0) : x = nI (jx x) ∧ jx x < B := am_mn hB h (fun e => z (by rw [e]; decide))
noncomputable def R_ar (c : Nat) (set : Int32) : Nat → Nat → (Nat → Nat → Int32) → Int32 → Option (Int32 × (Nat → Nat → Int32))
  | 0, k, J, left => (am_ite (left = 0) (some (((nI k), J))) none)
  | m + 1, k, J, left => (am_ite (left = 0) (some (((nI k), J))) (am_ite (((R_f1 c set k left 12 0 J left)) = 0) (some ((((-1)), J))) (am_ite (k = 0) (am_ite (((R_x1 c set k left ((R_f1 c set k left 12 0 J left)) k J (nI c))) < 0) none (R_ar c set m (k + 1) (am_u2 J 42 k (nI (jx ((R_x1 c set k left ((R_f1 c set k left 12 0 J left)) k J (nI c)))))) (left &&& (((nI 1) <<< ((nI (jx ((R_x1 c set k left ((R_f1 c set k left 12 0 J left)) k J (nI c))))) &&& 31)) ^^^ ((-1)))))) (am_ite (((R_x1 c set k left ((R_f1 c set k left 12 0 J left)) k J ((-1)))) < 0) none (R_ar c set m (k + 1) (am_u2 J 42 k (nI (jx ((R_x1 c set k left ((R_f1 c set k left 12 0 J left)) k J ((-1))))))) (left &&& (((nI 1) <<< ((nI (jx ((R_x1 c set k left ((R_f1 c set k left 12 0 J left)) k J ((-1)))))) &&& 31)) ^^^ ((-1)))))))))
set_option maxRecDepth 20000 in
theorem l_R_ar {d : am_D} {h : am_H} {Q : Option Value → am_H → Prop} (hB : am_B h) (c : Nat) (set : Int32) (hc : c < 12) {v : Int32} {K : Nat → Nat → Int32} : ∀ (m k : Nat) (J : Nat → Nat → Int32), am_ty2 J → k + m = 12 → ∀ (left : Int32), R_ar c set m k J left = some (v, K) → (am_ty2 K → Q (some (.int v)) (am_si h K)) → am_wp d 36 96 [some (.ref 36), some (.int (nI (c))), some (.int (set)), some (.int (nI (k))), some (.int (left)), none, none, none, none, none] [] (am_si h J) Q := by
  intro m
  induction m with
  | zero =>
    intro k J hT hk left HR HQ
    refine r_iload k36_96 rfl ?_
    refine r_ifeq k36_98 (fun z98 => ?_) (fun z98 => ?_)
    · refine r_iload k36_318 rfl ?_
      have e9 : R_ar c set 0 k J left = (some (((nI k), J))) := by rw [R_ar]; rw [am_ite_t z98]
      rw [e9] at HR
      obtain ⟨rfl, rfl⟩ := Prod.mk.inj (Option.some.inj HR)
      exact r_iret k36_319 rfl (HQ hT)
    · have e9 : R_ar c set 0 k J left = none := by rw [R_ar]; rw [am_ite_f z98]
      rw [e9] at HR
      cases HR
  | succ m ih =>
    intro k J hT hk left HR HQ
    refine r_iload k36_96 rfl ?_
    refine r_ifeq k36_98 (fun z98 => ?_) (fun z98 => ?_)
    · refine r_iload k36_318 rfl ?_
      have e9 : R_ar c set (m + 1) k J left = (some (((nI k), J))) := by rw [R_ar]; rw [am_ite_t z98]
      rw [e9] at HR
      obtain ⟨rfl, rfl⟩ := Prod.mk.inj (Option.some.inj HR)
      exact r_iret k36_319 rfl (HQ hT)
    · refine r_iload k36_101 rfl ?_
      refine r_istore (L' := [some (.ref 36), some (.int (nI (c))), some (.int (set)), some (.int (nI (k))), some (.int (left)), some (.int (left)), none, none, none, none]) k36_103 (Nat.le_of_ble_eq_true rfl) rfl ?_
      refine r_pushn (v := nI 0) k36_105 rfl ?_
      refine r_istore (L' := [some (.ref 36), some (.int (nI (c))), some (.int (set)), some (.int (nI (k))), some (.int (left)), some (.int (left)), some (.int (nI 0)), none, none, none]) k36_106 (Nat.le_of_ble_eq_true rfl) rfl ?_
      refine (l_R_f1 hB c set k left 12 0 J hT (by omega) left ?_)
      refine r_iload k36_200 rfl ?_
      refine r_ifne k36_202 (fun z202 => ?_) (fun z202 => ?_)
      · refine r_iload k36_207 rfl ?_
        refine r_ifneN (by omega) k36_208 (fun z208 => ?_) (fun z208 => ?_)
        · refine r_pushn (v := (-1)) k36_215 rfl ?_
          refine r_istore (L' := [some (.ref 36), some (.int (nI (c))), some (.int (set)), some (.int (nI (k))), some (.int (left)), some (.int ((R_f1 c set k left 12 0 J left))), some (.int ((-1))), none, none, none]) k36_216 (Nat.le_of_ble_eq_true rfl) rfl ?_
          refine r_iload k36_218 rfl ?_
          refine r_pushn (v := nI 1) k36_219 rfl ?_
          refine r_isub k36_220 ?_
          refine r_istore (L' := [some (.ref 36), some (.int (nI (c))), some (.int (set)), some (.int (nI (k))), some (.int (left)), some (.int ((R_f1 c set k left 12 0 J left))), some (.int ((-1))), some (.int ((nI k) - (nI 1))), none, none]) k36_221 (Nat.le_of_ble_eq_true rfl) rfl ?_
          rw [show ([some (.ref 36), some (.int (nI (c))), some (.int (set)), some (.int (nI (k))), some (.int (left)), some (.int ((R_f1 c set k left 12 0 J left))), some (.int ((-1))), some (.int ((nI k) - (nI 1))), none, none] : am_L) = [some (.ref 36), some (.int (nI (c))), some (.int (set)), some (.int (nI (k))), some (.int (left)), some (.int ((R_f1 c set k left 12 0 J left))), some (.int ((-1))), some (.int (am_pd k)), none, none] by rw [am_pd_sub]]
          refine (l_R_x1 hB c set k left ((R_f1 c set k left 12 0 J left)) k J hT ((-1)) (by omega) ?_)
          by_cases z293 : ((R_x1 c set k left ((R_f1 c set k left 12 0 J left)) k J ((-1)))) < 0
          · have e9 : R_ar c set (m + 1) k J left = none := by rw [R_ar]; rw [am_ite_f z98, am_ite_f z202, am_ite_f z208, am_ite_t z293]
            rw [e9] at HR
            cases HR
          · have c293 := am_mnl (by decide) (R_x1_r hT _ _ (Or.inl rfl)) z293
            rw [show ([some (.ref 36), some (.int (nI (c))), some (.int (set)), some (.int (nI (k))), some (.int (left)), some (.int ((R_f1 c set k left 12 0 J left))), some (.int ((R_x1 c set k left ((R_f1 c set k left 12 0 J left)) k J ((-1))))), none, none, none] : am_L) = [some (.ref 36), some (.int (nI (c))), some (.int (set)), some (.int (nI (k))), some (.int (left)), some (.int ((R_f1 c set k left 12 0 J left))), some (.int (nI (jx ((R_x1 c set k left ((R_f1 c set k left 12 0 J left)) k J ((-1))))))), none, none, none] by rw [← c293.1]]
            refine r_aload k36_293 rfl ?_
            refine j_ref (b := 42) k36_294 hB rfl ?_
            refine r_iload k36_297 rfl ?_
            refine r_iinc (v := (nI (k + 1))) (L' := [some (.ref 36), some (.int (nI (c))), some (.int (set)), some (.int (nI (k + 1))), some (.int (left)), some (.int ((R_f1 c set k left 12 0 J left))), some (.int (nI (jx ((R_x1 c set k left ((R_f1 c set k left 12 0 J left)) k J ((-1))))))), none, none, none]) k36_298 rfl (Nat.le_of_ble_eq_true rfl) (nI_1 _) rfl ?_
            refine r_iload k36_301 rfl ?_
            refine j_ast (n := 12) (j := k) k36_303 hB rfl rfl (by omega) ?_
            have hT303 : am_ty2 (am_u2 J 42 k (nI (jx ((R_x1 c set k left ((R_f1 c set k left 12 0 J left)) k J ((-1))))))) := ty_w hT (tw_n (B := 12) (by decide) (by decide) (by decide) (by omega))
            refine r_iload k36_304 rfl ?_
            refine r_pushn (v := nI 1) k36_306 rfl ?_
            refine r_iload k36_307 rfl ?_
            refine r_ishl k36_309 ?_
            refine r_pushn (v := (-1)) k36_310 rfl ?_
            refine r_ixor k36_311 ?_
            refine r_iand k36_312 ?_
            refine r_istore (L' := [some (.ref 36), some (.int (nI (c))), some (.int (set)), some (.int (nI (k + 1))), some (.int (left &&& (((nI 1) <<< ((nI (jx ((R_x1 c set k left ((R_f1 c set k left 12 0 J left)) k J ((-1)))))) &&& 31)) ^^^ ((-1))))), some (.int ((R_f1 c set k left 12 0 J left))), some (.int (nI (jx ((R_x1 c set k left ((R_f1 c set k left 12 0 J left)) k J ((-1))))))), none, none, none]) k36_313 (Nat.le_of_ble_eq_true rfl) rfl ?_
            refine r_goto k36_315 ?_
            have e9 : R_ar c set (m + 1) k J left = R_ar c set m (k + 1) (am_u2 J 42 k (nI (jx ((R_x1 c set k left ((R_f1 c set k left 12 0 J left)) k J ((-1))))))) (left &&& (((nI 1) <<< ((nI (jx ((R_x1 c set k left ((R_f1 c set k left 12 0 J left)) k J ((-1)))))) &&& 31)) ^^^ ((-1)))) := by rw [R_ar]; rw [am_ite_f z98, am_ite_f z202, am_ite_f z208, am_ite_f z293]
            rw [e9] at HR
            exact wp_L (L := [some (.ref 36), some (.int (nI (c))), some (.int (set)), some (.int (nI (k + 1))), some (.int (left &&& (((nI 1) <<< ((nI (jx ((R_x1 c set k left ((R_f1 c set k left 12 0 J left)) k J ((-1)))))) &&& 31)) ^^^ ((-1))))), none, none, none, none, none]) (⟨Or.inr rfl, Or.inr rfl, Or.inr rfl, Or.inr rfl, Or.inr rfl, Or.inl rfl, Or.inl rfl, Or.inl rfl, Or.inl rfl, Or.inl rfl, True.intro⟩) (ih (k + 1) (am_u2 J 42 k (nI (jx ((R_x1 c set k left ((R_f1 c set k left 12 0 J left)) k J ((-1))))))) hT303 (by omega) (left &&& (((nI 1) <<< ((nI (jx ((R_x1 c set k left ((R_f1 c set k left 12 0 J left)) k J ((-1)))))) &&& 31)) ^^^ ((-1)))) HR HQ)
        · refine r_iload k36_211 rfl ?_
          refine r_goto k36_212 ?_
          refine r_istore (L' := [some (.ref 36), some (.int (nI (c))), some (.int (set)), some (.int (nI (k))), some (.int (left)), some (.int ((R_f1 c set k left 12 0 J left))), some (.int (nI (c))), none, none, none]) k36_216 (Nat.le_of_ble_eq_true rfl) rfl ?_
          refine r_iload k36_218 rfl ?_
          refine r_pushn (v := nI 1) k36_219 rfl ?_
          refine r_isub k36_220 ?_
          refine r_istore (L' := [some (.ref 36), some (.int (nI (c))), some (.int (set)), some (.int (nI (k))), some (.int (left)), some (.int ((R_f1 c set k left 12 0 J left))), some (.int (nI (c))), some (.int ((nI k) - (nI 1))), none, none]) k36_221 (Nat.le_of_ble_eq_true rfl) rfl ?_
          rw [show ([some (.ref 36), some (.int (nI (c))), some (.int (set)), some (.int (nI (k))), some (.int (left)), some (.int ((R_f1 c set k left 12 0 J left))), some (.int (nI (c))), some (.int ((nI k) - (nI 1))), none, none] : am_L) = [some (.ref 36), some (.int (nI (c))), some (.int (set)), some (.int (nI (k))), some (.int (left)), some (.int ((R_f1 c set k left 12 0 J left))), some (.int (nI (c))), some (.int (am_pd k)), none, none] by rw [am_pd_sub]]
          refine (l_R_x1 hB c set k left ((R_f1 c set k left 12 0 J left)) k J hT (nI c) (by omega) ?_)
          by_cases z293 : ((R_x1 c set k left ((R_f1 c set k left 12 0 J left)) k J (nI c))) < 0
          · have e9 : R_ar c set (m + 1) k J left = none := by rw [R_ar]; rw [am_ite_f z98, am_ite_f z202, am_ite_t z208, am_ite_t z293]
            rw [e9] at HR
            cases HR
          · have c293 := am_mnl (by decide) (R_x1_r hT _ _ (Or.inr ⟨c, hc, rfl⟩)) z293
            rw [show ([some (.ref 36), some (.int (nI (c))), some (.int (set)), some (.int (nI (k))), some (.int (left)), some (.int ((R_f1 c set k left 12 0 J left))), some (.int ((R_x1 c set k left ((R_f1 c set k left 12 0 J left)) k J (nI c)))), none, none, none] : am_L) = [some (.ref 36), some (.int (nI (c))), some (.int (set)), some (.int (nI (k))), some (.int (left)), some (.int ((R_f1 c set k left 12 0 J left))), some (.int (nI (jx ((R_x1 c set k left ((R_f1 c set k left 12 0 J left)) k J (nI c)))))), none, none, none] by rw [← c293.1]]
            refine r_aload k36_293 rfl ?_
            refine j_ref (b := 42) k36_294 hB rfl ?_
            refine r_iload k36_297 rfl ?_
            refine r_iinc (v := (nI (k + 1))) (L' := [some (.ref 36), some (.int (nI (c))), some (.int (set)), some (.int (nI (k + 1))), some (.int (left)), some (.int ((R_f1 c set k left 12 0 J left))), some (.int (nI (jx ((R_x1 c set k left ((R_f1 c set k left 12 0 J left)) k J (nI c)))))), none, none, none]) k36_298 rfl (Nat.le_of_ble_eq_true rfl) (nI_1 _) rfl ?_
            refine r_iload k36_301 rfl ?_
            refine j_ast (n := 12) (j := k) k36_303 hB rfl rfl (by omega) ?_
            have hT303 : am_ty2 (am_u2 J 42 k (nI (jx ((R_x1 c set k left ((R_f1 c set k left 12 0 J left)) k J (nI c)))))) := ty_w hT (tw_n (B := 12) (by decide) (by decide) (by decide) (by omega))
            refine r_iload k36_304 rfl ?_
            refine r_pushn (v := nI 1) k36_306 rfl ?_
            refine r_iload k36_307 rfl ?_
            refine r_ishl k36_309 ?_
            refine r_pushn (v := (-1)) k36_310 rfl ?_
            refine r_ixor k36_311 ?_
            refine r_iand k36_312 ?_
            refine r_istore (L' := [some (.ref 36), some (.int (nI (c))), some (.int (set)), some (.int (nI (k + 1))), some (.int (left &&& (((nI 1) <<< ((nI (jx ((R_x1 c set k left ((R_f1 c set k left 12 0 J left)) k J (nI c))))) &&& 31)) ^^^ ((-1))))), some (.int ((R_f1 c set k left 12 0 J left))), some (.int (nI (jx ((R_x1 c set k left ((R_f1 c set k left 12 0 J left)) k J (nI c)))))), none, none, none]) k36_313 (Nat.le_of_ble_eq_true rfl) rfl ?_
            refine r_goto k36_315 ?_
            have e9 : R_ar c set (m + 1) k J left = R_ar c set m (k + 1) (am_u2 J 42 k (nI (jx ((R_x1 c set k left ((R_f1 c set k left 12 0 J left)) k J (nI c)))))) (left &&& (((nI 1) <<< ((nI (jx ((R_x1 c set k left ((R_f1 c set k left 12 0 J left)) k J (nI c))))) &&& 31)) ^^^ ((-1)))) := by rw [R_ar]; rw [am_ite_f z98, am_ite_f z202, am_ite_t z208, am_ite_f z293]
            rw [e9] at HR
            exact wp_L (L := [some (.ref 36), some (.int (nI (c))), some (.int (set)), some (.int (nI (k + 1))), some (.int (left &&& (((nI 1) <<< ((nI (jx ((R_x1 c set k left ((R_f1 c set k left 12 0 J left)) k J (nI c))))) &&& 31)) ^^^ ((-1))))), none, none, none, none, none]) (⟨Or.inr rfl, Or.inr rfl, Or.inr rfl, Or.inr rfl, Or.inr rfl, Or.inl rfl, Or.inl rfl, Or.inl rfl, Or.inl rfl, Or.inl rfl, True.intro⟩) (ih (k + 1) (am_u2 J 42 k (nI (jx ((R_x1 c set k left ((R_f1 c set k left 12 0 J left)) k J (nI c)))))) hT303 (by omega) (left &&& (((nI 1) <<< ((nI (jx ((R_x1 c set k left ((R_f1 c set k left 12 0 J left)) k J (nI c))))) &&& 31)) ^^^ ((-1)))) HR HQ)
      · refine r_pushn (v := (-1)) k36_205 rfl ?_
        have e9 : R_ar c set (m + 1) k J left = (some ((((-1)), J))) := by rw [R_ar]; rw [am_ite_f z98, am_ite_t z202]
        rw [e9] at HR
        obtain ⟨rfl, rfl⟩ := Prod.mk.inj (Option.some.inj HR)
        exact r_iret k36_206 rfl (HQ hT)
noncomputable def R_arrange (J : Nat → Nat → Int32) (c : Nat) : Option (Int32 × (Nat → Nat → Int32)) := (R_ar c ((R_a1 c 12 0 J ((nI 1) <<< ((nI c) &&& 31)))) 12 0 J ((R_a1 c 12 0 J ((nI 1) <<< ((nI c) &&& 31)))))
theorem s_R_arrange {d : am_D} {h : am_H} {J : Nat → Nat → Int32} (hB : am_B h) (hT : am_ty2 J) (c : Nat) (hc : c < 12) {v : Int32} {K : Nat → Nat → Int32} (HR : R_arrange J c = some (v, K)) : am_wp d 36 0 [some (.ref 36), some (.int (nI (c))), none, none, none, none, none, none, none, none] [] (am_si h J) (fun r h' => r = some (.int v) ∧ h' = am_si h K ∧ am_ty2 K) := by
  refine r_pushn (v := nI 1) k36_0 rfl ?_
  refine r_iload k36_1 rfl ?_
  refine r_ishl k36_2 ?_
  refine r_istore (L' := [some (.ref 36), some (.int (nI (c))), some (.int ((nI 1) <<< ((nI c) &&& 31))), none, none, none, none, none, none, none]) k36_3 (Nat.le_of_ble_eq_true rfl) rfl ?_
  refine r_pushn (v := nI 0) k36_4 rfl ?_
  refine r_istore (L' := [some (.ref 36), some (.int (nI (c))), some (.int ((nI 1) <<< ((nI c) &&& 31))), some (.int (nI 0)), none, none, none, none, none, none]) k36_5 (Nat.le_of_ble_eq_true rfl) rfl ?_
  refine (l_R_a1 hB c 12 0 J hT (by omega) ((nI 1) <<< ((nI c) &&& 31)) ?_)
  refine r_pushn (v := nI 0) k36_91 rfl ?_
  refine r_istore (L' := [some (.ref 36), some (.int (nI (c))), some (.int ((R_a1 c 12 0 J ((nI 1) <<< ((nI c) &&& 31))))), some (.int (nI 0)), none, none, none, none, none, none]) k36_92 (Nat.le_of_ble_eq_true rfl) rfl ?_
  refine r_iload k36_93 rfl ?_
  refine r_istore (L' := [some (.ref 36), some (.int (nI (c))), some (.int ((R_a1 c 12 0 J ((nI 1) <<< ((nI c) &&& 31))))), some (.int (nI 0)), some (.int ((R_a1 c 12 0 J ((nI 1) <<< ((nI c) &&& 31))))), none, none, none, none, none]) k36_94 (Nat.le_of_ble_eq_true rfl) rfl ?_
  exact (l_R_ar hB c ((R_a1 c 12 0 J ((nI 1) <<< ((nI c) &&& 31)))) hc 12 0 J hT (by omega) ((R_a1 c 12 0 J ((nI 1) <<< ((nI c) &&& 31)))) HR (fun hT9 => ⟨rfl, rfl, hT9⟩))
