/-! The run of a call, on both sides. -/
/-- the reference's loop comes to an end -/
def Rend : Nat → Int32 → (Nat → Nat → Int32) → Int32 → (Nat → Nat → Int32) → Prop
  | 0, g, L, g', L' => (g = 0 ∨ jn L 36 39 = 0) ∧ g' = g ∧ L' = L
  | n + 1, g, L, g', L' => ((g = 0 ∨ jn L 36 39 = 0) ∧ g' = g ∧ L' = L) ∨ (¬ g = 0 ∧ RW L ∧ Rend n (R_work L).1 (R_work L).2 g' L')
theorem s_Rend {d : am_D} {h : am_H} {Q : Option Value → am_H → Prop} {l1 l2 l3 : Int32} (hB : am_B h) (hd : 8 ≤ d.1) (hw : 192 ≤ d.2) : ∀ n g L g' L', am_ty2 L → Rend n g L g' L' → (am_ty2 L' → am_wp d 70 107 [some (.ref 36), some (.int l1), some (.int l2), some (.int l3), some (.int g')] [] (am_si h L') Q) → am_wp d 70 86 [some (.ref 36), some (.int l1), some (.int l2), some (.int l3), some (.int g)] [] (am_si h L) Q := by
  have stop : ∀ g L g' L', am_ty2 L → ((g = 0 ∨ jn L 36 39 = 0) ∧ g' = g ∧ L' = L) → (am_ty2 L' → am_wp d 70 107 [some (.ref 36), some (.int l1), some (.int l2), some (.int l3), some (.int g')] [] (am_si h L') Q) → am_wp d 70 86 [some (.ref 36), some (.int l1), some (.int l2), some (.int l3), some (.int g)] [] (am_si h L) Q := fun g L g' L' ty hr K => by
    obtain ⟨a, rfl, rfl⟩ := hr
    refine r_iload k70_86 rfl ?_
    refine r_ifeq k70_88 (fun _ => K ty) (fun z => ?_)
    refine r_aload k70_91 rfl ?_
    have b := ty_f ty (q := 36) (j := 39) (B := 321) (by decide) (by decide)
    refine j_get (j := 39) (v := nI (jn L' 36 39)) k70_92 hB rfl b.1 ?_
    refine r_ifleN (by omega) k70_95 (fun _ => K ty) (fun z2 => ?_)
    rcases a with a | a
    · exact absurd a z
    · exact absurd a z2
  intro n
  induction n with
  | zero => intro g L g' L' ty hr K; exact stop g L g' L' ty hr K
  | succ n ih =>
    intro g L g' L' ty hr K
    rcases hr with hr | ⟨z, rw0, hr⟩
    · exact stop g L g' L' ty hr K
    · refine r_iload k70_86 rfl ?_
      refine r_ifeq k70_88 (fun z2 => absurd z2 z) (fun _ => ?_)
      refine r_aload k70_91 rfl ?_
      have b := ty_f ty (q := 36) (j := 39) (B := 321) (by decide) (by decide)
      refine j_get (j := 39) (v := nI (jn L 36 39)) k70_92 hB rfl b.1 ?_
      refine r_ifleN (by omega) k70_95 (fun z2 => absurd rw0.2.1 (by omega)) (fun z2 => ?_)
      refine r_aload k70_98 rfl ?_
      refine j_call (ml := 4) k70_99 rfl (show 0 < d.1 by omega) (show 19 + 4 ≤ d.2 by omega) ⟨Nat.le_of_ble_eq_true rfl, Nat.le_of_ble_eq_true rfl, am_obB hB rfl, Nat.le_of_ble_eq_true rfl⟩ rfl (rest := []) rfl (s_R_work hB ty rw0.1 rw0.2.1 rw0.2.2.1 rw0.2.2.2.1 rw0.2.2.2.2.1 rw0.2.2.2.2.2 (show 7 ≤ d.1 - 1 by omega) (show 169 ≤ d.2 - (19 + 4) by omega)) (fun r h1 hq => ?_)
      obtain ⟨rfl, rfl, t2⟩ := hq
      show am_wp _ _ _ [some (.ref 36), some (.int l1), some (.int l2), some (.int l3), some (.int g)] [.int (R_work L).1] _ _
      refine r_istore (L' := [some (.ref 36), some (.int l1), some (.int l2), some (.int l3), some (.int (R_work L).1)]) k70_102 (Nat.le_of_ble_eq_true rfl) rfl ?_
      refine r_goto k70_104 ?_
      exact ih _ _ _ _ t2 hr K
theorem Rend_fr {q : Nat} (hq : q < 36 ∨ 74 ≤ q) : ∀ n g L g' L', Rend n g L g' L' → L' q = L q := by
  intro n
  induction n with
  | zero => intro g L g' L' hr; rw [hr.2.2]
  | succ n ih =>
    intro g L g' L' hr
    rcases hr with hr | ⟨z, rw0, hr⟩
    · rw [hr.2.2]
    · rw [ih _ _ _ _ hr, fr_R_work q (by omega)]
theorem Rend_ty (h : am_H) (hB : am_B h) : ∀ n g L g' L', am_ty2 L → Rend n g L g' L' → am_ty2 L' := by
  intro n
  induction n with
  | zero => intro g L g' L' ty hr; rw [hr.2.2]; exact ty
  | succ n ih =>
    intro g L g' L' ty hr
    rcases hr with hr | ⟨z, rw0, hr⟩
    · rw [hr.2.2]; exact ty
    · exact ih _ _ _ _ (RW_ty h hB ty rw0) hr
/-- what run gives -/
def Qr (good : Int32) (L : Nat → Nat → Int32) (nb cc : Nat) : Option Value → am_H → Prop := fun r hh => ∃ h' J' v n g' L' lab' nn', nn' ≤ nb ∧ r = some (.long v) ∧ hh = am_si h' J' ∧ Rend n good L g' L' ∧ Fin h' J' L' lab' nn' cc ∧ ((g' = nI 1 ∧ v = (L' 36 42).toInt64) ∨ (g' = nI 0 ∧ v = Int64.ofInt 1099511627776 + (L' 36 40).toInt64 ∧ ¬ L' 36 40 = 0))
theorem Qr_m {good : Int32} {L : Nat → Nat → Int32} {a b cc : Nat} {r : Option Value} {hh : am_H} (hab : a ≤ b) (q : Qr good L a cc r hh) : Qr good L b cc r hh := by
  obtain ⟨h', J', v, n, g', L', lab', nn', p, q⟩ := q
  exact ⟨h', J', v, n, g', L', lab', nn', Nat.le_trans p hab, q⟩
theorem Qr_s {L : Nat → Nat → Int32} {nb cc : Nat} {r : Option Value} {hh : am_H} (rw0 : RW L) (q : Qr (R_work L).1 (R_work L).2 nb cc r hh) : Qr (nI 1) L nb cc r hh := by
  obtain ⟨h', J', v, n, g', L', lab', nn', p, a, b, c, d⟩ := q
  exact ⟨h', J', v, n + 1, g', L', lab', nn', p, a, b, Or.inr ⟨by decide, rw0, c⟩, d⟩
/-- an error ends the run -/
theorem run_e {d : am_D} {h : am_H} {J L : Nat → Nat → Int32} {lab : Nat → Nat} {nn nb cc k : Nat} {g x y : Int32} (hF : Fin h J L lab nn cc) (hnb : nn ≤ nb) (e : L 36 40 = J 33 11) (ne : ¬ J 33 11 = 0) (hk : k < 1000000) (hd : 6 ≤ d.1) (hw : 171 ≤ d.2) : am_wp d 144 30 [some (.ref 33), some (.int g), some (.int x), some (.int y), some (.int (nI k)), none] [] (am_si h J) (Qr (nI 0) L nb cc) := by
  refine l_M_tur0 hF.1.1 hF.1.2.1 k g x y (by omega) hd (by omega) (fun z _ _ => absurd hk (by omega)) (fun z _ _ => absurd hk (by omega)) (fun _ _ _ => ?_) (fun _ z _ _ _ => absurd z ne) (fun _ z _ _ _ => absurd z ne) (fun _ z _ _ => absurd z ne)
  exact ⟨h, J, _, 0, nI 0, L, lab, nn, hnb, rfl, rfl, ⟨Or.inl rfl, rfl, rfl⟩, hF, Or.inr ⟨rfl, by rw [e], by rw [e]; exact ne⟩⟩
theorem run_M {d : am_D} {gI xI yI : Int32} (hd : 6 ≤ d.1) (hw : 171 ≤ d.2) : ∀ M, (∀ k h J L lab op tp lv c nn cc, k + M < 1000000 → Mst h J L lab op tp lv c → Oth h J L nn cc → 2 * (c + 70 * (300 - jn L 36 41)) < M → (op = 0 → L 36 42 = J 33 12) → am_wp d 144 30 [some (.ref 33), some (.int gI), some (.int xI), some (.int yI), some (.int (nI k)), none] [] (am_si h J) (Qr (nI 1) L (nn + M) cc)) ∧ (∀ k h J L lab op tp lv c nn cc g x y, k + M < 1000000 → Wnt h J L lab op tp lv c nn cc g x y → 2 * (c + 70 * (300 - jn L 36 41) + 69) + 1 < M → am_wp d 144 30 [some (.ref 33), some (.int gI), some (.int xI), some (.int yI), some (.int (nI k)), none] [] (am_si h J) (Qr (R_en L g x y).1 (R_en L g x y).2 (nn + M) cc)) := by
  intro M
  induction M with
  | zero => exact ⟨fun k h J L lab op tp lv c nn cc _ _ _ q _ => absurd q (Nat.not_lt_zero _), fun k h J L lab op tp lv c nn cc g x y _ _ q => absurd q (Nat.not_lt_zero _)⟩
  | succ M ih =>
    refine ⟨fun k h J L lab op tp lv c nn cc hk hM hO hp h0 => ?_, fun k h J L lab op tp lv c nn cc g x y hk hw0 hp => ?_⟩
    · have hB := hM.1.1
      have ty := hM.1.2.1
      have e11 : J 33 11 = nI 0 := hM.2.2.2.2.2.1.1
      have e13 : J 33 13 = -1 := hM.2.2.2.2.2.1.2.1
      have e9 : jn J 33 9 = op := hM.2.1.2.2.1
      have e39 : jn L 36 39 = tp := hM.2.1.2.2.2.1
      cases op with
      | zero =>
        have st := hM.2.2.2.1
        have tp0 : tp = 0 := st.1
        refine l_M_tur0 hB ty k gI xI yI (by omega) hd (by omega) (fun z _ _ => absurd hk (by omega)) (fun z _ _ => absurd hk (by omega)) (fun _ z _ => absurd e11 z) (fun _ _ _ _ _ => ?_) (fun _ _ _ z _ => absurd e9 z) (fun _ _ z _ => absurd e13 z)
        exact ⟨h, J, _, 0, nI 1, L, lab, nn, Nat.le_add_right nn _, rfl, rfl, ⟨Or.inr (by rw [e39]; exact tp0), rfl, rfl⟩, ⟨hM.1, hO, hM.2.2.2.2.2.1.2.2.2, hM.2.2.2.2.1.1 rfl⟩, Or.inl ⟨rfl, by rw [h0 rfl]⟩⟩
      | succ n =>
        obtain ⟨f, w, e, u, t0, lv0, c0, hT⟩ := Mst_top hM
        refine l_M_turn hB ty k f gI xI yI (by omega) (fun _ => by rw [e9]; exact hT.1.1) hd (by omega) (fun z _ _ => absurd hk (by omega)) (fun z _ _ => absurd hk (by omega)) (fun _ z _ => absurd e11 z) (fun _ _ _ z _ => absurd z (by rw [e9]; exact Nat.succ_ne_zero n)) (fun _ _ _ _ _ => ?_) (fun _ _ z _ => absurd e13 z)
        refine j_call (ml := 2) k144_73 rfl (show 0 < d.1 by omega) (show 19 + 2 ≤ d.2 by omega) ⟨Nat.le_of_ble_eq_true rfl, Nat.le_of_ble_eq_true rfl, am_obB hB rfl, Nat.le_of_ble_eq_true rfl⟩ rfl (rest := []) rfl (w_adv hM hO hT (Nat.le_refl _) (show 5 ≤ d.1 - 1 by omega) (show 150 ≤ d.2 - (19 + 2) by omega)) (fun r h1 hq => ?_)
        obtain ⟨rfl, h', J', rfl, out⟩ := hq
        show am_wp _ _ _ [some (.ref 33), some (.int gI), some (.int xI), some (.int yI), some (.int (nI k)), none] [] _ _
        refine r_iinc (v := (nI (k + 1))) (L' := [some (.ref 33), some (.int gI), some (.int xI), some (.int yI), some (.int (nI (k + 1))), none]) k144_76 rfl (Nat.le_of_ble_eq_true rfl) (nI_1 _) rfl ?_
        refine r_goto k144_79 ?_
        rcases out with ⟨L', lab', op', tp', lv', c', nn', b', st, M', O', p', z'⟩ | ⟨L1, lab', op', tp', lv', c', nn', g, x, y, b', rw0, eW, W', p'⟩ | ⟨L', lab', nn', b', rw0, eW, F', e40, ne⟩
        · have g9 := ih.1 (k + 1) h' J' L' lab' op' tp' lv' c' nn' cc (by omega) M' O' (by omega) z'
          rcases st with st | ⟨rw0, eW⟩
          · rw [st] at g9; exact wp_mono g9 (fun r hh q => Qr_m (show nn' + M ≤ nn + (M + 1) by omega) q)
          · exact wp_mono g9 (fun r hh q => Qr_s rw0 (by rw [eW]; exact Qr_m (show nn' + M ≤ nn + (M + 1) by omega) q))
        · have g9 := ih.2 (k + 1) h' J' L1 lab' op' tp' lv' c' nn' cc g x y (by omega) W' (by omega)
          exact wp_mono g9 (fun r hh q => Qr_s rw0 (by rw [eW]; exact Qr_m (show nn' + M ≤ nn + (M + 1) by omega) q))
        · have g9 := run_e (g := gI) (x := xI) (y := yI) F' (show nn' ≤ nn + (M + 1) by omega) e40 ne (show k + 1 < 1000000 by omega) hd hw
          exact wp_mono g9 (fun r hh q => Qr_s rw0 (by rw [eW]; exact q))
    · have hw1 := hw0
      obtain ⟨hM, hO, h38, hcl, ⟨hwg, hg⟩, hx, hy, hy12, h4⟩ := hw0
      have hB := hM.1.1
      have ty := ty_13 hM.1.2.1
      have e11 : J 33 11 = nI 0 := by have q := hM.2.2.2.2.2.1.1; rw [u2_ne (by decide)] at q; exact q
      have n13 : ¬ J 33 13 = -1 := by rw [hwg]; exact nI_n1 (by omega)
      refine l_M_tur0 hB ty k gI xI yI (by omega) hd (by omega) (fun z _ _ => absurd hk (by omega)) (fun z _ _ => absurd hk (by omega)) (fun _ z _ => absurd e11 z) (fun _ _ z _ _ => absurd z n13) (fun _ _ z _ _ => absurd z n13) (fun _ _ _ _ => ?_)
      refine j_call (ml := 3) k144_59 rfl (show 0 < d.1 by omega) (show 19 + 3 ≤ d.2 by omega) ⟨Nat.le_of_ble_eq_true rfl, Nat.le_of_ble_eq_true rfl, am_obB hB rfl, Nat.le_of_ble_eq_true rfl⟩ rfl (rest := []) rfl (w_beg (N := c + 70 * (300 - jn L 36 41) + 70) hw1 (by omega) (show 5 ≤ d.1 - 1 by omega) (show 123 ≤ d.2 - (19 + 3) by omega)) (fun r h1 hq => ?_)
      obtain ⟨rfl, h', J', rfl, out⟩ := hq
      show am_wp _ _ _ [some (.ref 33), some (.int gI), some (.int xI), some (.int yI), some (.int (nI k)), none] [] _ _
      refine r_goto k144_62 ?_
      refine r_iinc (v := (nI (k + 1))) (L' := [some (.ref 33), some (.int gI), some (.int xI), some (.int yI), some (.int (nI (k + 1))), none]) k144_76 rfl (Nat.le_of_ble_eq_true rfl) (nI_1 _) rfl ?_
      refine r_goto k144_79 ?_
      rcases out with ⟨L', lab', op', tp', lv', c', nn', b', eR, M', O', p', z'⟩ | ⟨L', lab', nn', b', eR, F', e40, ne⟩
      · rw [eR]
        exact wp_mono (ih.1 (k + 1) h' J' L' lab' op' tp' lv' c' nn' cc (by omega) M' O' (by omega) (fun z => absurd z' (by omega))) (fun r hh q => Qr_m (show nn' + M ≤ nn + (M + 1) by omega) q)
      · rw [eR]
        exact run_e (g := gI) (x := xI) (y := yI) F' (show nn' ≤ nn + (M + 1) by omega) e40 ne (show k + 1 < 1000000 by omega) hd hw
