/-! Touching: the loop over the names, side by side. -/
theorem bv_clr (x b : BitVec 32) : (x &&& (b ^^^ BitVec.allOnes 32)) &&& b = 0#32 := by
  ext i hi
  rw [BitVec.getElem_and, BitVec.getElem_and, BitVec.getElem_xor, BitVec.getElem_allOnes]
  cases x[i] <;> cases b[i] <;> simp
theorem i_clr (x b : Int32) : (x &&& (b ^^^ (-1))) &&& b = 0 := by
  apply Int32.toBitVec_inj.mp
  exact bv_clr x.toBitVec b.toBitVec
theorem u2_eq {K M : Nat → Nat → Int32} {q r i : Nat} {x y : Int32} (h : K q = M r) (e : x = y) : am_u2 K q i x q = am_u2 M r i y r := by
  funext j
  show (if q = q then (if j = i then x else K q j) else K q j) = (if r = r then (if j = i then y else M r j) else M r j)
  rw [if_pos rfl, if_pos rfl, h, e]
theorem u2_ne {K : Nat → Nat → Int32} {q i j : Nat} {x : Int32} (h : ¬ j = i) : am_u2 K q i x q j = K q j := by
  show (if q = q then (if j = i then x else K q j) else K q j) = K q j
  rw [if_pos rfl, if_neg h]
def rl_f1 (K J : Nat → Nat → Int32) : Prop := K 4 = J 4 ∧ K 5 = J 5 ∧ K 6 = J 6 ∧ K 7 = J 7 ∧ K 11 = J 11
def rl_f2 (M L : Nat → Nat → Int32) : Prop := M 39 = L 39 ∧ M 40 = L 40 ∧ M 43 = L 43 ∧ M 44 = L 44 ∧ M 45 = L 45 ∧ M 46 = L 46
/-- the bits: n from k on, what the old layout lacks isn't bound; below k, what the new one lacks isn't -/
def rl_bt (x old now : Int32) (k : Nat) : Prop := (∀ n, k ≤ n → n < 6 → old &&& rl_bit n = 0 → x &&& rl_bit n = 0) ∧ ∀ n, n < k → now &&& rl_bit n = 0 → x &&& rl_bit n = 0
theorem bt_clr {x old now : Int32} {k : Nat} (h : rl_bt x old now k) : rl_bt (x &&& (rl_bit k ^^^ (-1))) old now (k + 1) := by
  refine ⟨fun n h1 h2 h3 => i_andc (h.1 n (by omega) h2 h3), fun n h1 h2 => ?_⟩
  by_cases e : n = k
  · rw [e]; exact i_clr _ _
  · exact i_andc (h.2 n (by omega) h2)
theorem bt_keep {x old now : Int32} {k : Nat} (h : rl_bt x old now k) (hn : ¬ now &&& rl_bit k = 0) : rl_bt x old now (k + 1) := by
  refine ⟨fun n h1 h2 h3 => h.1 n (by omega) h2 h3, fun n h1 h2 => ?_⟩
  by_cases e : n = k
  · rw [e] at h2; exact absurd h2 hn
  · exact h.2 n (by omega) h2
theorem bt_set {x old now : Int32} {k : Nat} (hk : k < 6) (h : rl_bt x old now k) (hn : ¬ now &&& rl_bit k = 0) : rl_bt (x ||| rl_bit k) old now (k + 1) := by
  refine ⟨fun n h1 h2 h3 => ?_, fun n h1 h2 => ?_⟩
  · rw [i_orand, h.1 n (by omega) h2 h3, show rl_bit k &&& rl_bit n = 0 from i_bits k hk n h2 (by omega)]; rfl
  · by_cases e : n = k
    · rw [e] at h2; exact absurd h2 hn
    · rw [i_orand, h.2 n (by omega) h2, show rl_bit k &&& rl_bit n = 0 from i_bits k hk n (by omega) (fun q => e q.symm)]; rfl
theorem rl_fl {J L : Nat → Nat → Int32} (hT : am_ty2 J) (hC : rl_C J L) {i c : Nat} {old now : Int32} (hc : jn J 11 i = c) (hc2 : jn L 45 i = c) (hnow : now = R_locals L c) (hold : L 46 i = old) : ∀ m k K M loc, k + m = 6 → rl_f1 K J → rl_f2 M L → K 13 = M 47 → K 14 = M 48 → rl_bt (K 13 i) old now k → (I_tl i old m k K loc).1 13 = (R_fl i now m k M) 47 ∧ (I_tl i old m k K loc).1 14 = (R_fl i now m k M) 48 ∧ rl_bt ((I_tl i old m k K loc).1 13 i) old now 6 := by
  intro m
  induction m with
  | zero =>
    intro k K M loc hk _ _ h1 h2 h3
    rw [I_tl, R_fl]
    have e : k = 6 := by omega
    rw [e] at h3
    exact ⟨h1, h2, h3⟩
  | succ m ih =>
    intro k K M loc hk f1 f2 h1 h2 h3
    obtain ⟨a4, a5, a6, a7, a11⟩ := f1
    obtain ⟨b39, b40, b43, b44, b45, b46⟩ := f2
    rw [I_tl, R_fl]
    have e0 : C_holder K (jn K 11 i) k = C_holder J c k := by
      have e : jn K 11 i = c := by rw [← hc]; unfold jn; rw [a11]
      rw [e]; exact C_holder_congr a4 a6 a5
    have e00 : R_slotOf M (jn M 45 i) k = R_slotOf L c k := by
      have e : jn M 45 i = c := by rw [← hc2]; unfold jn; rw [b45]
      rw [e]; exact R_slotOf_congr b39 b43 b40
    rw [e0, e00]
    have hg := rl_locals (J := L) (c := c) (n := k) (by omega)
    rw [← hnow] at hg
    have clr : rl_f1 (am_u2 K 13 i ((K 13 i) &&& (rl_bit k ^^^ (-1)))) J := ⟨a4, a5, a6, a7, a11⟩
    have clr2 : rl_f2 (am_u2 M 47 i ((M 47 i) &&& (rl_bit k ^^^ (-1)))) L := ⟨b39, b40, b43, b44, b45, b46⟩
    have e13 : K 13 i = M 47 i := by rw [h1]
    have bad : now &&& rl_bit k = 0 → (I_tl i old m (k + 1) (am_u2 K 13 i ((K 13 i) &&& (rl_bit k ^^^ (-1)))) loc).1 13 = (R_fl i now m (k + 1) (am_u2 M 47 i ((M 47 i) &&& (rl_bit k ^^^ (-1))))) 47 ∧ (I_tl i old m (k + 1) (am_u2 K 13 i ((K 13 i) &&& (rl_bit k ^^^ (-1)))) loc).1 14 = (R_fl i now m (k + 1) (am_u2 M 47 i ((M 47 i) &&& (rl_bit k ^^^ (-1))))) 48 ∧ rl_bt ((I_tl i old m (k + 1) (am_u2 K 13 i ((K 13 i) &&& (rl_bit k ^^^ (-1)))) loc).1 13 i) old now 6 := fun _ =>
      ih (k + 1) _ _ loc (by omega) clr clr2 (u2_eq h1 (by rw [e13])) h2 (by rw [am_u2_s]; exact bt_clr h3)
    rcases rl_holder hT hC (c := c) (nm := k) with ⟨e1, e2⟩ | ⟨e, he, e1, e2, _⟩
    · have nb : now &&& rl_bit k = 0 := hg.mpr (fun g => g.1 (by rw [e2]; decide))
      rw [e1, am_ite_t rfl, am_ite_t (show now &&& ((nI 1) <<< ((nI k) &&& 31)) = 0 from nb)]
      exact bad nb
    · have n1 : ¬ nI e = -1 := fun q => by
        have g : ¬ nI e < 0 := nI_pos (by omega)
        exact g (by rw [q]; decide)
      rw [e1, am_ite_f n1, jx_nI (by omega), e2, jx_nI (by omega)]
      have e3 : jn L 43 (6 * e + k) = jn J 6 (e * 6 + k) := by rw [jn_e hC.1, Nat.mul_comm]
      have e3m : jn M 43 (6 * e + k) = jn J 6 (e * 6 + k) := by rw [← e3]; unfold jn; rw [b43]
      have e4 : jn K 6 (e * 6 + k) = jn J 6 (e * 6 + k) := by unfold jn; rw [a6]
      by_cases z : jn J 6 (e * 6 + k) = 3
      · have s1 : C_shared K e k := by unfold C_shared; rw [e4, am_ite_t z]; trivial
        have nb : now &&& rl_bit k = 0 := hg.mpr (fun g => g.2 (by rw [e2, jx_nI (by omega), e3]; exact z))
        rw [am_ite_t s1, am_ite_t (show now &&& ((nI 1) <<< ((nI k) &&& 31)) = 0 from nb)]
        exact bad nb
      · have s1 : ¬ C_shared K e k := by unfold C_shared; rw [e4, am_ite_f z]; exact fun q => q
        have nb : ¬ now &&& rl_bit k = 0 := fun q => hg.mp q ⟨by rw [e2]; exact nI_pos (by omega), by rw [e2, jx_nI (by omega), e3]; exact z⟩
        rw [am_ite_f s1, am_ite_f (show ¬ now &&& ((nI 1) <<< ((nI k) &&& 31)) = 0 from nb), show M 46 i = old by rw [b46]; exact hold]
        have hin := i_isin old (k := k) (by omega)
        by_cases z2 : old &&& rl_bit k = 0
        · have w : ¬ w_isin old (nI k) := by unfold w_isin; rw [am_ite_t (hin.mpr z2)]; exact fun q => q
          rw [am_ite_f w, am_ite_t (show old &&& ((nI 1) <<< ((nI k) &&& 31)) = 0 from z2), e3m]
          by_cases z3 : jn J 6 (e * 6 + k) = 1
          · have ci : C_init K e k := by unfold C_init; rw [e4, am_ite_t z3]; trivial
            rw [am_ite_t ci, am_ite_t z3]
            refine ih (k + 1) _ _ _ (by omega) ⟨a4, a5, a6, a7, a11⟩ ⟨b39, b40, b43, b44, b45, b46⟩ ?_ ?_ ?_
            · show am_u2 (am_u2 K 14 ((i * 6) + k) _) 13 i _ 13 = am_u2 M 47 i _ 47
              exact u2_eq h1 (by rw [e13])
            · show am_u2 K 14 ((i * 6) + k) _ 14 = am_u2 (am_u2 M 47 i _) 48 ((6 * i) + k) _ 48
              rw [Nat.mul_comm i 6]
              refine u2_eq h2 ?_
              show K 7 (e * 6 + k) = M 44 (6 * e + k)
              rw [a7, b44, hC.2.1, Nat.mul_comm]
            · show rl_bt (am_u2 (am_u2 K 14 ((i * 6) + k) _) 13 i ((K 13 i) ||| rl_bit k) 13 i) old now (k + 1)
              rw [am_u2_s]; exact bt_set (by omega) h3 nb
          · have ci : ¬ C_init K e k := by unfold C_init; rw [e4, am_ite_f z3]; exact fun q => q
            rw [am_ite_f ci, am_ite_f z3]
            have hz : M 47 i &&& rl_bit k = 0 := by rw [← e13]; exact h3.1 k (Nat.le_refl _) (by omega) z2
            refine ih (k + 1) K _ _ (by omega) ⟨a4, a5, a6, a7, a11⟩ ⟨b39, b40, b43, b44, b45, b46⟩ ?_ h2 (bt_keep h3 nb)
            funext j
            by_cases ej : j = i
            · rw [ej, am_u2_s, e13]; exact (i_and0 hz).symm
            · rw [u2_ne ej, h1]
        · have w : w_isin old (nI k) := by unfold w_isin; rw [am_ite_f (fun q => z2 (hin.mp q))]; trivial
          rw [am_ite_t w, am_ite_f (show ¬ old &&& ((nI 1) <<< ((nI k) &&& 31)) = 0 from z2)]
          exact ih (k + 1) K M _ (by omega) ⟨a4, a5, a6, a7, a11⟩ ⟨b39, b40, b43, b44, b45, b46⟩ h1 h2 (bt_keep h3 nb)
