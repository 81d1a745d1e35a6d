/-! The reference: a step of the work. -/
theorem zb_i {α : Type} {p : Prop} {A B : Int32 × α} (ha : p → A.1 &&& 1 = A.1) (hb : ¬ p → B.1 &&& 1 = B.1) : (am_ite p A B).1 &&& 1 = (am_ite p A B).1 := by
  by_cases z : p
  · rw [am_ite_t z]; exact ha z
  · rw [am_ite_f z]; exact hb z
theorem zb_R_e9 {g x y : Nat} {ow : Int32} {J : Nat → Nat → Int32} : (R_e9 g x y ow J).1 &&& 1 = (R_e9 g x y ow J).1 := by
  unfold R_e9
  refine zb_i (fun _ => ?_) (fun _ => ?_)
  · refine zb_i (fun _ => ?_) (fun _ => ?_)
    · refine zb_i (fun _ => ?_) (fun _ => ?_)
      · refine zb_i (fun _ => ?_) (fun _ => ?_)
        · exact (show (nI 0) &&& 1 = nI 0 by decide)
        · refine zb_i (fun _ => ?_) (fun _ => ?_)
          · exact (show (nI 0) &&& 1 = nI 0 by decide)
          · exact (show (nI 1) &&& 1 = nI 1 by decide)
      · refine zb_i (fun _ => ?_) (fun _ => ?_)
        · exact (show (nI 0) &&& 1 = nI 0 by decide)
        · refine zb_i (fun _ => ?_) (fun _ => ?_)
          · exact (show (nI 0) &&& 1 = nI 0 by decide)
          · exact (show (nI 1) &&& 1 = nI 1 by decide)
    · refine zb_i (fun _ => ?_) (fun _ => ?_)
      · exact (show (nI 0) &&& 1 = nI 0 by decide)
      · refine zb_i (fun _ => ?_) (fun _ => ?_)
        · exact (show (nI 0) &&& 1 = nI 0 by decide)
        · exact (show (nI 1) &&& 1 = nI 1 by decide)
  · refine zb_i (fun _ => ?_) (fun _ => ?_)
    · refine zb_i (fun _ => ?_) (fun _ => ?_)
      · refine zb_i (fun _ => ?_) (fun _ => ?_)
        · exact (show (nI 0) &&& 1 = nI 0 by decide)
        · refine zb_i (fun _ => ?_) (fun _ => ?_)
          · exact (show (nI 0) &&& 1 = nI 0 by decide)
          · exact (show (nI 1) &&& 1 = nI 1 by decide)
      · refine zb_i (fun _ => ?_) (fun _ => ?_)
        · exact (show (nI 0) &&& 1 = nI 0 by decide)
        · refine zb_i (fun _ => ?_) (fun _ => ?_)
          · exact (show (nI 0) &&& 1 = nI 0 by decide)
          · exact (show (nI 1) &&& 1 = nI 1 by decide)
    · refine zb_i (fun _ => ?_) (fun _ => ?_)
      · exact (show (nI 0) &&& 1 = nI 0 by decide)
      · refine zb_i (fun _ => ?_) (fun _ => ?_)
        · exact (show (nI 0) &&& 1 = nI 0 by decide)
        · exact (show (nI 1) &&& 1 = nI 1 by decide)
theorem zb_R_enter {J : Nat → Nat → Int32} {g x y : Nat} : (R_enter J g x y).1 &&& 1 = (R_enter J g x y).1 := zb_R_e9
noncomputable def R_nt (f : Nat) (a : Int32) : Nat → (Nat → Nat → Int32) → (Nat → Nat → Int32)
  | 0, J => (J)
  | m + 1, J => (R_nt f a m (am_u2 J 72 (m + 1) (J 72 ((m + 1) - 1))))
set_option maxRecDepth 20000 in
theorem l_R_nt {d : am_D} {h : am_H} {Q : Option Value → am_H → Prop} (hB : am_B h) (f : Nat) (a : Int32) (hd : 6 ≤ d.1) (hw : 141 ≤ d.2) : ∀ (m : Nat) (J : Nat → Nat → Int32), am_ty2 J → m ≤ 19 → (am_ty2 (R_nt f a m J) → am_wp d 69 264 [some (.ref 36), some (.int (nI (f))), none, some (.int (a)), none, none, none, none, none] [] (am_si h (R_nt f a m J)) Q) → am_wp d 69 237 [some (.ref 36), some (.int (nI (f))), none, some (.int (a)), none, none, none, none, some (.int (nI (m)))] [] (am_si h J) Q := by
  intro m
  induction m with
  | zero =>
    intro J hT hc0 HQ
    refine r_iload k69_237 rfl ?_
    refine r_ifleN (by omega) k69_239 (fun _ => ?_) (fun z => absurd rfl z)
    have e9 : R_nt f a 0 J = (J) := by rw [R_nt]
    rw [e9] at HQ
    exact wp_L (L := [some (.ref 36), some (.int (nI (f))), none, some (.int (a)), none, none, none, none, none]) (⟨Or.inr rfl, Or.inr rfl, Or.inl rfl, Or.inr rfl, Or.inl rfl, Or.inl rfl, Or.inl rfl, Or.inl rfl, Or.inl rfl, True.intro⟩) (HQ hT)
  | succ m ih =>
    intro J hT hc0 HQ
    refine r_iload k69_237 rfl ?_
    refine r_ifleN (by omega) k69_239 (fun z => absurd z (by omega)) (fun _ => ?_)
    refine r_aload k69_242 rfl ?_
    refine j_ref (b := 72) k69_243 hB rfl ?_
    refine r_iload k69_246 rfl ?_
    refine r_aload k69_248 rfl ?_
    refine j_ref (b := 72) k69_249 hB rfl ?_
    refine r_iload k69_252 rfl ?_
    refine r_pushn (v := nI 1) k69_254 rfl ?_
    refine r_isubN (by omega) k69_255 ?_
    refine j_ald (n := 20) (j := ((m + 1) - 1)) (v := (J 72 ((m + 1) - 1))) k69_256 hB rfl rfl (by omega) rfl ?_
    refine j_ast (n := 20) (j := (m + 1)) k69_257 hB rfl rfl (by omega) ?_
    have hT257 : am_ty2 (am_u2 J 72 (m + 1) (J 72 ((m + 1) - 1))) := ty_w hT (tw_a (by decide) (by decide) (by decide))
    refine r_iinc (v := (nI m)) (L' := [some (.ref 36), some (.int (nI (f))), none, some (.int (a)), none, none, none, none, some (.int (nI (m)))]) k69_258 rfl (Nat.le_of_ble_eq_true rfl) (am_pd_dec _) rfl ?_
    refine r_goto k69_261 ?_
    have e9 : R_nt f a (m + 1) J = R_nt f a m (am_u2 J 72 (m + 1) (J 72 ((m + 1) - 1))) := by rw [R_nt]
    rw [e9] at HQ
    exact ih (am_u2 J 72 (m + 1) (J 72 ((m + 1) - 1))) hT257 (by omega) HQ
theorem fl_R_nt {f : Nat} {a : Int32} (q : Nat) (hq : ¬ q = 72) : ∀ (m : Nat) (J : Nat → Nat → Int32), (R_nt f a m J) q = J q := by
  intro m
  induction m with
  | zero =>
    intro J
    rw [R_nt]
    first | done | exact rfl
  | succ m ih =>
    intro J
    rw [R_nt]
    first | done | exact (ih (am_u2 J 72 (m + 1) (J 72 ((m + 1) - 1)))).trans (fr_u (by omega))
noncomputable def R_n9 (f : Nat) (a : Int32) (J : Nat → Nat → Int32) : Int32 × (Nat → Nat → Int32) := (((nI 1), am_u2 (am_u2 J 72 0 a) 73 3 ((J 73 3) + (nI 1))))
set_option maxRecDepth 20000 in
theorem l_R_n9 {d : am_D} {h : am_H} {Q : Option Value → am_H → Prop} (hB : am_B h) (f : Nat) (a : Int32) (hd : 6 ≤ d.1) (hw : 141 ≤ d.2) {J : Nat → Nat → Int32} (hT : am_ty2 J) (HQ : (am_ty2 (R_n9 f a J).2 → Q (some (.int (R_n9 f a J).1)) (am_si h (R_n9 f a J).2))) : am_wp d 69 264 [some (.ref 36), some (.int (nI (f))), none, some (.int (a)), none, none, none, none, none] [] (am_si h J) Q := by
  refine r_aload k69_264 rfl ?_
  refine j_ref (b := 72) k69_265 hB rfl ?_
  refine r_pushn (v := nI 0) k69_268 rfl ?_
  refine r_iload k69_269 rfl ?_
  refine j_ast (n := 20) (j := 0) k69_270 hB rfl rfl (by omega) ?_
  have hT270 : am_ty2 (am_u2 J 72 0 a) := ty_w hT (tw_a (by decide) (by decide) (by decide))
  refine r_aload k69_271 rfl ?_
  refine j_ref (b := 73) k69_272 hB rfl ?_
  refine r_pushn (v := nI 3) k69_275 rfl ?_
  refine r_dup2 rfl rfl k69_276 ?_
  refine j_ald (n := 10) (j := 3) (v := (J 73 3)) k69_277 hB rfl rfl (by omega) rfl ?_
  refine r_pushn (v := nI 1) k69_278 rfl ?_
  refine r_iadd k69_279 ?_
  refine j_ast (n := 10) (j := 3) k69_280 hB rfl rfl (by omega) ?_
  have hT280 : am_ty2 (am_u2 (am_u2 J 72 0 a) 73 3 ((J 73 3) + (nI 1))) := ty_w hT270 (tw_a (by decide) (by decide) (by decide))
  refine r_pushn (v := nI 1) k69_281 rfl ?_
  have e9 : R_n9 f a J = (((nI 1), am_u2 (am_u2 J 72 0 a) 73 3 ((J 73 3) + (nI 1)))) := by rw [R_n9]
  rw [e9] at HQ
  exact r_zret k69_282 rfl (by decide) (HQ hT280)
theorem fr_R_n9 {f : Nat} {a : Int32} {J : Nat → Nat → Int32} (q : Nat) (hq : ¬ q = 72 ∧ ¬ q = 73) : (R_n9 f a J).2 q = J q := by
  unfold R_n9
  exact (fr_u (by omega)).trans (fr_u (by omega))
theorem zb_R_n9 {f : Nat} {a : Int32} {J : Nat → Nat → Int32} : (R_n9 f a J).1 &&& 1 = (R_n9 f a J).1 := by
  unfold R_n9
  exact (show (nI 1) &&& 1 = nI 1 by decide)
noncomputable def R_act (J : Nat → Nat → Int32) (f : Nat) (op : Nat) (a : Int32) : Int32 × (Nat → Nat → Int32) := (am_ite ((jn J 65 f) = 0) (am_ite (((jn J 66 f) + 1) < (jn J 60 ((4 * ((jn J 36 38) - 1)) + 0))) (am_ite (op = 0) (((nI 1), am_u2 J 68 f a)) (am_ite (op = 1) (((nI 1), am_u2 J 68 f ((J 68 f) + a))) (am_ite (op = 2) (am_ite ((lg_cmp ((R_get J (nI (jn J 69 f)) a).1) (Int64.ofInt 549755813888)) ≤ 0) (((nI 1), am_u2 ((R_get J (nI (jn J 69 f)) a).2) 68 f ((((R_get J (nI (jn J 69 f)) a).2) 68 f) + (((R_get J (nI (jn J 69 f)) a).1).toInt32)))) (((nI 0), (R_get J (nI (jn J 69 f)) a).2))) (am_ite (op = 3) (am_ite ((lg_cmp ((R_put J (nI (jn J 69 f)) a (J 68 f)).1) (Int64.ofInt 1)) = 0) (((nI 1), (R_put J (nI (jn J 69 f)) a (J 68 f)).2)) (((nI 0), (R_put J (nI (jn J 69 f)) a (J 68 f)).2))) (am_ite (op = 4) (((nI 1), R_begin J (jn J 65 f) ((jn J 66 f) + 1))) (am_ite (op = 5) (((nI 1), am_u2 J 68 f (nI 1))) (am_ite (op = 6) (R_n9 f a ((R_nt f a 19 J))) (am_ite (op = 7) (am_ite ((jn J 49 (jx a)) = 0) (((nI 0), (R_stop J ((-2))).2)) (am_ite ((jn J 36 38) = 12) (((nI 0), (R_stop J ((-11))).2)) (am_ite ((jn J 49 (jn J 63 ((jn J 36 38) - 1))) = 2) ((((R_enter J (jx a) (jn J 69 f) (jn J 70 f)).1), (R_enter J (jx a) (jn J 69 f) (jn J 70 f)).2)) ((((R_enter J (jx a) (jn J 69 f) (jn J 69 f)).1), (R_enter J (jx a) (jn J 69 f) (jn J 69 f)).2))))) (am_ite (op = 8) (am_ite (((R_become J (nI (jn J 69 f)) a).1) = (nI 1)) (((nI 1), (R_become J (nI (jn J 69 f)) a).2)) (((nI 0), (R_stop ((R_become J (nI (jn J 69 f)) a).2) ((-2))).2))) (am_ite (2 ≤ (jn J 49 (jn J 63 ((jn J 36 38) - 1)))) (((nI 1), am_u2 (am_u2 J 69 f (nI (jn J 70 f))) 70 f (nI (jn J 69 f)))) (((nI 1), J)))))))))))) (am_ite (op = 0) (((nI 1), am_u2 J 68 f a)) (am_ite (op = 1) (((nI 1), am_u2 J 68 f ((J 68 f) + a))) (am_ite (op = 2) (am_ite ((lg_cmp ((R_get J (nI (jn J 69 f)) a).1) (Int64.ofInt 549755813888)) ≤ 0) (((nI 1), am_u2 ((R_get J (nI (jn J 69 f)) a).2) 68 f ((((R_get J (nI (jn J 69 f)) a).2) 68 f) + (((R_get J (nI (jn J 69 f)) a).1).toInt32)))) (((nI 0), (R_get J (nI (jn J 69 f)) a).2))) (am_ite (op = 3) (am_ite ((lg_cmp ((R_put J (nI (jn J 69 f)) a (J 68 f)).1) (Int64.ofInt 1)) = 0) (((nI 1), (R_put J (nI (jn J 69 f)) a (J 68 f)).2)) (((nI 0), (R_put J (nI (jn J 69 f)) a (J 68 f)).2))) (am_ite (op = 4) (((nI 0), (R_stop J ((-10))).2)) (am_ite (op = 5) (((nI 1), am_u2 J 68 f (nI 0))) (am_ite (op = 6) (R_n9 f a ((R_nt f a 19 J))) (am_ite (op = 7) (am_ite ((jn J 49 (jx a)) = 0) (((nI 0), (R_stop J ((-2))).2)) (am_ite ((jn J 36 38) = 12) (((nI 0), (R_stop J ((-11))).2)) (am_ite ((jn J 49 (jn J 63 ((jn J 36 38) - 1))) = 2) ((((R_enter J (jx a) (jn J 69 f) (jn J 70 f)).1), (R_enter J (jx a) (jn J 69 f) (jn J 70 f)).2)) ((((R_enter J (jx a) (jn J 69 f) (jn J 69 f)).1), (R_enter J (jx a) (jn J 69 f) (jn J 69 f)).2))))) (am_ite (op = 8) (am_ite (((R_become J (nI (jn J 69 f)) a).1) = (nI 1)) (((nI 1), (R_become J (nI (jn J 69 f)) a).2)) (((nI 0), (R_stop ((R_become J (nI (jn J 69 f)) a).2) ((-2))).2))) (am_ite (2 ≤ (jn J 49 (jn J 63 ((jn J 36 38) - 1)))) (((nI 1), am_u2 (am_u2 J 69 f (nI (jn J 70 f))) 70 f (nI (jn J 69 f)))) (((nI 1), J))))))))))))) (am_ite ((jn J 65 f) = 3) (am_ite (op = 0) (((nI 1), am_u2 J 68 f a)) (am_ite (op = 1) (((nI 1), am_u2 J 68 f ((J 68 f) + a))) (am_ite (op = 2) (am_ite ((lg_cmp ((R_get J (nI (jn J 69 f)) a).1) (Int64.ofInt 549755813888)) ≤ 0) (((nI 1), am_u2 ((R_get J (nI (jn J 69 f)) a).2) 68 f ((((R_get J (nI (jn J 69 f)) a).2) 68 f) + (((R_get J (nI (jn J 69 f)) a).1).toInt32)))) (((nI 0), (R_get J (nI (jn J 69 f)) a).2))) (am_ite (op = 3) (am_ite ((lg_cmp ((R_put J (nI (jn J 69 f)) a (J 68 f)).1) (Int64.ofInt 1)) = 0) (((nI 1), (R_put J (nI (jn J 69 f)) a (J 68 f)).2)) (((nI 0), (R_put J (nI (jn J 69 f)) a (J 68 f)).2))) (am_ite (op = 4) (((nI 1), R_begin J (jn J 65 f) ((jn J 66 f) + 1))) (am_ite (op = 5) (((nI 1), am_u2 J 68 f (nI 1))) (am_ite (op = 6) (R_n9 f a ((R_nt f a 19 J))) (am_ite (op = 7) (am_ite ((jn J 49 (jx a)) = 0) (((nI 0), (R_stop J ((-2))).2)) (am_ite ((jn J 36 38) = 12) (((nI 0), (R_stop J ((-11))).2)) (am_ite ((jn J 49 (jn J 63 ((jn J 36 38) - 1))) = 2) ((((R_enter J (jx a) (jn J 69 f) (jn J 70 f)).1), (R_enter J (jx a) (jn J 69 f) (jn J 70 f)).2)) ((((R_enter J (jx a) (jn J 69 f) (jn J 69 f)).1), (R_enter J (jx a) (jn J 69 f) (jn J 69 f)).2))))) (am_ite (op = 8) (am_ite (((R_become J (nI (jn J 69 f)) a).1) = (nI 1)) (((nI 1), (R_become J (nI (jn J 69 f)) a).2)) (((nI 0), (R_stop ((R_become J (nI (jn J 69 f)) a).2) ((-2))).2))) (am_ite (2 ≤ (jn J 49 (jn J 63 ((jn J 36 38) - 1)))) (((nI 1), am_u2 (am_u2 J 69 f (nI (jn J 70 f))) 70 f (nI (jn J 69 f)))) (((nI 1), J)))))))))))) (am_ite (op = 0) (((nI 1), am_u2 J 68 f a)) (am_ite (op = 1) (((nI 1), am_u2 J 68 f ((J 68 f) + a))) (am_ite (op = 2) (am_ite ((lg_cmp ((R_get J (nI (jn J 69 f)) a).1) (Int64.ofInt 549755813888)) ≤ 0) (((nI 1), am_u2 ((R_get J (nI (jn J 69 f)) a).2) 68 f ((((R_get J (nI (jn J 69 f)) a).2) 68 f) + (((R_get J (nI (jn J 69 f)) a).1).toInt32)))) (((nI 0), (R_get J (nI (jn J 69 f)) a).2))) (am_ite (op = 3) (am_ite ((lg_cmp ((R_put J (nI (jn J 69 f)) a (J 68 f)).1) (Int64.ofInt 1)) = 0) (((nI 1), (R_put J (nI (jn J 69 f)) a (J 68 f)).2)) (((nI 0), (R_put J (nI (jn J 69 f)) a (J 68 f)).2))) (am_ite (op = 4) (((nI 0), (R_stop J ((-10))).2)) (am_ite (op = 5) (((nI 1), am_u2 J 68 f (nI 0))) (am_ite (op = 6) (R_n9 f a ((R_nt f a 19 J))) (am_ite (op = 7) (am_ite ((jn J 49 (jx a)) = 0) (((nI 0), (R_stop J ((-2))).2)) (am_ite ((jn J 36 38) = 12) (((nI 0), (R_stop J ((-11))).2)) (am_ite ((jn J 49 (jn J 63 ((jn J 36 38) - 1))) = 2) ((((R_enter J (jx a) (jn J 69 f) (jn J 70 f)).1), (R_enter J (jx a) (jn J 69 f) (jn J 70 f)).2)) ((((R_enter J (jx a) (jn J 69 f) (jn J 69 f)).1), (R_enter J (jx a) (jn J 69 f) (jn J 69 f)).2))))) (am_ite (op = 8) (am_ite (((R_become J (nI (jn J 69 f)) a).1) = (nI 1)) (((nI 1), (R_become J (nI (jn J 69 f)) a).2)) (((nI 0), (R_stop ((R_become J (nI (jn J 69 f)) a).2) ((-2))).2))) (am_ite (2 ≤ (jn J 49 (jn J 63 ((jn J 36 38) - 1)))) (((nI 1), am_u2 (am_u2 J 69 f (nI (jn J 70 f))) 70 f (nI (jn J 69 f)))) (((nI 1), J))))))))))))))
set_option maxRecDepth 20000 in
theorem s_R_act {d : am_D} {h : am_H} {J : Nat → Nat → Int32} (hB : am_B h) (hT : am_ty2 J) (f : Nat) (op : Nat) (a : Int32) (hf : f < 320) (hop : op < 10) (hl : 0 < jn J 36 38) (ht : jn J 36 39 < 320) (hp9 : jn J 65 f = 3 → jn J 66 f < 15) (ha : op = 7 → a = nI (jx a) ∧ jx a < 5) (hd : 6 ≤ d.1) (hw : 141 ≤ d.2) : am_wp d 69 0 [some (.ref 36), some (.int (nI (f))), some (.int (nI (op))), some (.int (a)), none, none, none, none, none] [] (am_si h J) (fun r h' => r = some (.int (R_act J f op a).1) ∧ h' = am_si h (R_act J f op a).2 ∧ am_ty2 (R_act J f op a).2) := by
  refine r_aload k69_0 rfl ?_
  refine j_ref (b := 65) k69_1 hB rfl ?_
  refine r_iload k69_4 rfl ?_
  have b5 := ty_n hT (q := 65) (B := 10) (by decide) (by decide) f
  refine j_ald (n := 320) (j := f) (v := (nI (jn J 65 f))) k69_5 hB rfl rfl (by omega) b5.1 ?_
  refine r_istore (L' := [some (.ref 36), some (.int (nI (f))), some (.int (nI (op))), some (.int (a)), some (.int (nI (jn J 65 f))), none, none, none, none]) k69_6 (Nat.le_of_ble_eq_true rfl) rfl ?_
  refine r_iload k69_8 rfl ?_
  refine r_ifneN (by omega) k69_10 (fun z10 => ?_) (fun z10 => ?_)
  · refine r_iload k69_37 rfl ?_
    refine r_pushn (v := nI 3) k69_39 rfl ?_
    refine r_icmpeqN (by omega) (by omega) k69_40 (fun z40 => ?_) (fun z40 => ?_)
    · refine r_pushn (v := nI 0) k69_47 rfl ?_
      refine r_istore (L' := [some (.ref 36), some (.int (nI (f))), some (.int (nI (op))), some (.int (a)), some (.int (nI (jn J 65 f))), some (.int (nI 0)), none, none, none]) k69_48 (Nat.le_of_ble_eq_true rfl) rfl ?_
      refine r_iload k69_50 rfl ?_
      by_cases y51_0 : op = 0
      · refine r_tsIn k69_51 (by rw [y51_0]; decide) (t := 100) (by rw [y51_0]; rfl) ?_
        refine r_aload k69_100 rfl ?_
        refine j_ref (b := 68) k69_101 hB rfl ?_
        refine r_iload k69_104 rfl ?_
        refine r_iload k69_105 rfl ?_
        refine j_ast (n := 320) (j := f) k69_106 hB rfl rfl (by omega) ?_
        have hT106 : am_ty2 (am_u2 J 68 f a) := ty_w hT (tw_a (by decide) (by decide) (by decide))
        refine r_pushn (v := nI 1) k69_107 rfl ?_
        have e9 : R_act J f op a = (((nI 1), am_u2 J 68 f a)) := by unfold R_act; rw [am_ite_f z10, am_ite_t z40, am_ite_t y51_0]
        exact r_zret k69_108 rfl (by decide) ⟨by rw [e9], by rw [e9], by rw [e9]; exact hT106⟩
      · by_cases y51_1 : op = 1
        · refine r_tsIn k69_51 (by rw [y51_1]; decide) (t := 109) (by rw [y51_1]; rfl) ?_
          refine r_aload k69_109 rfl ?_
          refine j_ref (b := 68) k69_110 hB rfl ?_
          refine r_iload k69_113 rfl ?_
          refine r_dup2 rfl rfl k69_114 ?_
          refine j_ald (n := 320) (j := f) (v := (J 68 f)) k69_115 hB rfl rfl (by omega) rfl ?_
          refine r_iload k69_116 rfl ?_
          refine r_iadd k69_117 ?_
          refine j_ast (n := 320) (j := f) k69_118 hB rfl rfl (by omega) ?_
          have hT118 : am_ty2 (am_u2 J 68 f ((J 68 f) + a)) := ty_w hT (tw_a (by decide) (by decide) (by decide))
          refine r_pushn (v := nI 1) k69_119 rfl ?_
          have e9 : R_act J f op a = (((nI 1), am_u2 J 68 f ((J 68 f) + a))) := by unfold R_act; rw [am_ite_f z10, am_ite_t z40, am_ite_f y51_0, am_ite_t y51_1]
          exact r_zret k69_120 rfl (by decide) ⟨by rw [e9], by rw [e9], by rw [e9]; exact hT118⟩
        · by_cases y51_2 : op = 2
          · refine r_tsIn k69_51 (by rw [y51_2]; decide) (t := 121) (by rw [y51_2]; rfl) ?_
            refine r_aload k69_121 rfl ?_
            refine r_aload k69_122 rfl ?_
            refine j_ref (b := 69) k69_123 hB rfl ?_
            refine r_iload k69_126 rfl ?_
            have b127 := ty_n hT (q := 69) (B := 12) (by decide) (by decide) f
            refine j_ald (n := 320) (j := f) (v := (nI (jn J 69 f))) k69_127 hB rfl rfl (by omega) b127.1 ?_
            refine r_iload k69_128 rfl ?_
            refine j_call (ml := 4) k69_129 rfl (show 0 < d.1 by omega) (show 19 + 4 ≤ d.2 by omega) ⟨Nat.le_of_ble_eq_true rfl, Nat.le_of_ble_eq_true rfl, am_obB hB rfl, Nat.le_of_ble_eq_true rfl⟩ rfl (rest := []) rfl (s_R_get hB hT (nI (jn J 69 f)) a (show 5 ≤ d.1 - 1 by omega) (show 117 ≤ d.2 - 23 by omega)) (fun r h1 hq => ?_)
            obtain ⟨rfl, rfl, hT129⟩ := hq
            show am_wp _ _ _ [some (.ref 36), some (.int (nI (f))), some (.int (nI (op))), some (.int (a)), some (.int (nI (jn J 65 f))), some (.int (nI 0)), none, none, none] [.long ((R_get J (nI (jn J 69 f)) a).1)] _ _
            refine r_lstore (L' := [some (.ref 36), some (.int (nI (f))), some (.int (nI (op))), some (.int (a)), some (.int (nI (jn J 65 f))), some (.int (nI 0)), some (.long ((R_get J (nI (jn J 69 f)) a).1)), none, none]) k69_132 (Nat.le_of_ble_eq_true rfl) rfl ?_
            refine r_lload k69_134 rfl ?_
            refine r_pushl k69_136 ?_
            refine r_lcmp k69_139 ?_
            refine r_ifle k69_140 (fun z140 => ?_) (fun z140 => ?_)
            · refine r_aload k69_145 rfl ?_
              refine j_ref (b := 68) k69_146 hB rfl ?_
              refine r_iload k69_149 rfl ?_
              refine r_dup2 rfl rfl k69_150 ?_
              refine j_ald (n := 320) (j := f) (v := (((R_get J (nI (jn J 69 f)) a).2) 68 f)) k69_151 hB rfl rfl (by omega) rfl ?_
              refine r_lload k69_152 rfl ?_
              refine r_l2i k69_154 ?_
              refine r_iadd k69_155 ?_
              refine j_ast (n := 320) (j := f) k69_156 hB rfl rfl (by omega) ?_
              have hT156 : am_ty2 (am_u2 ((R_get J (nI (jn J 69 f)) a).2) 68 f ((((R_get J (nI (jn J 69 f)) a).2) 68 f) + (((R_get J (nI (jn J 69 f)) a).1).toInt32))) := ty_w hT129 (tw_a (by decide) (by decide) (by decide))
              refine r_pushn (v := nI 1) k69_157 rfl ?_
              have e9 : R_act J f op a = (((nI 1), am_u2 ((R_get J (nI (jn J 69 f)) a).2) 68 f ((((R_get J (nI (jn J 69 f)) a).2) 68 f) + (((R_get J (nI (jn J 69 f)) a).1).toInt32)))) := by unfold R_act; rw [am_ite_f z10, am_ite_t z40, am_ite_f y51_0, am_ite_f y51_1, am_ite_t y51_2, am_ite_t z140]
              exact r_zret k69_158 rfl (by decide) ⟨by rw [e9], by rw [e9], by rw [e9]; exact hT156⟩
            · refine r_pushn (v := nI 0) k69_143 rfl ?_
              have e9 : R_act J f op a = (((nI 0), (R_get J (nI (jn J 69 f)) a).2)) := by unfold R_act; rw [am_ite_f z10, am_ite_t z40, am_ite_f y51_0, am_ite_f y51_1, am_ite_t y51_2, am_ite_f z140]
              exact r_zret k69_144 rfl (by decide) ⟨by rw [e9], by rw [e9], by rw [e9]; exact hT129⟩
          · by_cases y51_3 : op = 3
            · refine r_tsIn k69_51 (by rw [y51_3]; decide) (t := 159) (by rw [y51_3]; rfl) ?_
              refine r_aload k69_159 rfl ?_
              refine r_aload k69_160 rfl ?_
              refine j_ref (b := 69) k69_161 hB rfl ?_
              refine r_iload k69_164 rfl ?_
              have b165 := ty_n hT (q := 69) (B := 12) (by decide) (by decide) f
              refine j_ald (n := 320) (j := f) (v := (nI (jn J 69 f))) k69_165 hB rfl rfl (by omega) b165.1 ?_
              refine r_iload k69_166 rfl ?_
              refine r_aload k69_167 rfl ?_
              refine j_ref (b := 68) k69_168 hB rfl ?_
              refine r_iload k69_171 rfl ?_
              refine j_ald (n := 320) (j := f) (v := (J 68 f)) k69_172 hB rfl rfl (by omega) rfl ?_
              refine j_call (ml := 5) k69_173 rfl (show 0 < d.1 by omega) (show 19 + 5 ≤ d.2 by omega) ⟨Nat.le_of_ble_eq_true rfl, Nat.le_of_ble_eq_true rfl, am_obB hB rfl, Nat.le_of_ble_eq_true rfl⟩ rfl (rest := []) rfl (s_R_put hB hT (nI (jn J 69 f)) a (J 68 f) (show 5 ≤ d.1 - 1 by omega) (show 117 ≤ d.2 - 24 by omega)) (fun r h1 hq => ?_)
              obtain ⟨rfl, rfl, hT173⟩ := hq
              show am_wp _ _ _ [some (.ref 36), some (.int (nI (f))), some (.int (nI (op))), some (.int (a)), some (.int (nI (jn J 65 f))), some (.int (nI 0)), none, none, none] [.long ((R_put J (nI (jn J 69 f)) a (J 68 f)).1)] _ _
              refine r_pushl k69_176 ?_
              refine r_lcmp k69_177 ?_
              refine r_ifne k69_178 (fun z178 => ?_) (fun z178 => ?_)
              · refine r_pushn (v := nI 0) k69_185 rfl ?_
                have e9 : R_act J f op a = (((nI 0), (R_put J (nI (jn J 69 f)) a (J 68 f)).2)) := by unfold R_act; rw [am_ite_f z10, am_ite_t z40, am_ite_f y51_0, am_ite_f y51_1, am_ite_f y51_2, am_ite_t y51_3, am_ite_f z178]
                exact r_zret k69_186 rfl (by decide) ⟨by rw [e9], by rw [e9], by rw [e9]; exact hT173⟩
              · refine r_pushn (v := nI 1) k69_181 rfl ?_
                refine r_goto k69_182 ?_
                have e9 : R_act J f op a = (((nI 1), (R_put J (nI (jn J 69 f)) a (J 68 f)).2)) := by unfold R_act; rw [am_ite_f z10, am_ite_t z40, am_ite_f y51_0, am_ite_f y51_1, am_ite_f y51_2, am_ite_t y51_3, am_ite_t z178]
                exact r_zret k69_186 rfl (by decide) ⟨by rw [e9], by rw [e9], by rw [e9]; exact hT173⟩
            · by_cases y51_4 : op = 4
              · refine r_tsIn k69_51 (by rw [y51_4]; decide) (t := 187) (by rw [y51_4]; rfl) ?_
                refine r_iload k69_187 rfl ?_
                refine r_ifeqN (by omega) k69_189 (fun _ => ?_) (fun z => absurd z (by decide))
                refine r_aload k69_199 rfl ?_
                refine r_iload k69_200 rfl ?_
                refine r_aload k69_202 rfl ?_
                refine j_ref (b := 66) k69_203 hB rfl ?_
                refine r_iload k69_206 rfl ?_
                have b207 := ty_n hT (q := 66) (B := 17) (by decide) (by decide) f
                refine j_ald (n := 320) (j := f) (v := (nI (jn J 66 f))) k69_207 hB rfl rfl (by omega) b207.1 ?_
                refine r_pushn (v := nI 1) k69_208 rfl ?_
                refine r_iaddN k69_209 ?_
                refine j_call (ml := 4) k69_210 rfl (show 0 < d.1 by omega) (show 19 + 4 ≤ d.2 by omega) ⟨Nat.le_of_ble_eq_true rfl, Nat.le_of_ble_eq_true rfl, am_obB hB rfl, Nat.le_of_ble_eq_true rfl⟩ rfl (rest := []) rfl (s_R_begin hB hT (jn J 65 f) ((jn J 66 f) + 1) (by omega) (by have q9 := hp9 z40; omega) (hl) (ht) (show 1 ≤ d.1 - 1 by omega) (show 21 ≤ d.2 - 23 by omega)) (fun r h1 hq => ?_)
                obtain ⟨rfl, rfl, hT210⟩ := hq
                show am_wp _ _ _ [some (.ref 36), some (.int (nI (f))), some (.int (nI (op))), some (.int (a)), some (.int (nI (jn J 65 f))), some (.int (nI 0)), none, none, none] [] _ _
                refine r_pushn (v := nI 1) k69_213 rfl ?_
                have e9 : R_act J f op a = (((nI 1), R_begin J (jn J 65 f) ((jn J 66 f) + 1))) := by unfold R_act; rw [am_ite_f z10, am_ite_t z40, am_ite_f y51_0, am_ite_f y51_1, am_ite_f y51_2, am_ite_f y51_3, am_ite_t y51_4]
                exact r_zret k69_214 rfl (by decide) ⟨by rw [e9], by rw [e9], by rw [e9]; exact hT210⟩
              · by_cases y51_5 : op = 5
                · refine r_tsIn k69_51 (by rw [y51_5]; decide) (t := 215) (by rw [y51_5]; rfl) ?_
                  refine r_aload k69_215 rfl ?_
                  refine j_ref (b := 68) k69_216 hB rfl ?_
                  refine r_iload k69_219 rfl ?_
                  refine r_iload k69_220 rfl ?_
                  refine r_ifeqN (by omega) k69_222 (fun _ => ?_) (fun z => absurd z (by decide))
                  refine r_pushn (v := nI 1) k69_229 rfl ?_
                  refine j_ast (n := 320) (j := f) k69_230 hB rfl rfl (by omega) ?_
                  have hT230 : am_ty2 (am_u2 J 68 f (nI 1)) := ty_w hT (tw_a (by decide) (by decide) (by decide))
                  refine r_pushn (v := nI 1) k69_231 rfl ?_
                  have e9 : R_act J f op a = (((nI 1), am_u2 J 68 f (nI 1))) := by unfold R_act; rw [am_ite_f z10, am_ite_t z40, am_ite_f y51_0, am_ite_f y51_1, am_ite_f y51_2, am_ite_f y51_3, am_ite_f y51_4, am_ite_t y51_5]
                  exact r_zret k69_232 rfl (by decide) ⟨by rw [e9], by rw [e9], by rw [e9]; exact hT230⟩
                · by_cases y51_6 : op = 6
                  · refine r_tsIn k69_51 (by rw [y51_6]; decide) (t := 233) (by rw [y51_6]; rfl) ?_
                    refine r_pushn (v := nI 19) k69_233 rfl ?_
                    refine r_istore (L' := [some (.ref 36), some (.int (nI (f))), some (.int (nI (op))), some (.int (a)), some (.int (nI (jn J 65 f))), some (.int (nI 0)), none, none, some (.int (nI 19))]) k69_235 (Nat.le_of_ble_eq_true rfl) rfl ?_
                    refine wp_L (L := [some (.ref 36), some (.int (nI (f))), none, some (.int (a)), none, none, none, none, some (.int (nI 19))]) (⟨Or.inr rfl, Or.inr rfl, Or.inl rfl, Or.inr rfl, Or.inl rfl, Or.inl rfl, Or.inl rfl, Or.inl rfl, Or.inr rfl, True.intro⟩) (l_R_nt hB f a hd hw 19 J hT (by omega) (fun hT9R_nt => ?_))
                    have e9 : R_act J f op a = (R_n9 f a ((R_nt f a 19 J))) := by unfold R_act ; rw [am_ite_f z10, am_ite_t z40, am_ite_f y51_0, am_ite_f y51_1, am_ite_f y51_2, am_ite_f y51_3, am_ite_f y51_4, am_ite_f y51_5, am_ite_t y51_6]
                    exact (l_R_n9 hB f a hd hw hT9R_nt (fun hT9 => ⟨by rw [e9], by rw [e9], by rw [e9]; exact hT9⟩))
                  · by_cases y51_7 : op = 7
                    · refine r_tsIn k69_51 (by rw [y51_7]; decide) (t := 283) (by rw [y51_7]; rfl) ?_
                      have ca := ha y51_7
                      rw [show ([some (.ref 36), some (.int (nI (f))), some (.int (nI (op))), some (.int (a)), some (.int (nI (jn J 65 f))), some (.int (nI 0)), none, none, none] : am_L) = [some (.ref 36), some (.int (nI (f))), some (.int (nI (op))), some (.int (nI (jx a))), some (.int (nI (jn J 65 f))), some (.int (nI 0)), none, none, none] by rw [← ca.1]]
                      refine r_aload k69_283 rfl ?_
                      refine j_ref (b := 49) k69_284 hB rfl ?_
                      refine r_iload k69_287 rfl ?_
                      have b288 := ty_n hT (q := 49) (B := 3) (by decide) (by decide) (jx a)
                      refine j_ald (n := 5) (j := (jx a)) (v := (nI (jn J 49 (jx a)))) k69_288 hB rfl rfl (by omega) b288.1 ?_
                      refine r_ifneN (by omega) k69_289 (fun z289 => ?_) (fun z289 => ?_)
                      · refine r_aload k69_299 rfl ?_
                        have b300 := ty_f hT (q := 36) (j := 38) (B := 13) (by decide) (by decide)
                        refine j_get (j := 38) (v := (nI (jn J 36 38))) k69_300 hB rfl b300.1 ?_
                        refine r_pushn (v := nI 12) k69_303 rfl ?_
                        refine r_icmpneN (by omega) (by omega) k69_305 (fun z305 => ?_) (fun z305 => ?_)
                        · refine r_aload k69_315 rfl ?_
                          refine r_iload k69_316 rfl ?_
                          refine r_aload k69_317 rfl ?_
                          refine j_ref (b := 69) k69_318 hB rfl ?_
                          refine r_iload k69_321 rfl ?_
                          have b322 := ty_n hT (q := 69) (B := 12) (by decide) (by decide) f
                          refine j_ald (n := 320) (j := f) (v := (nI (jn J 69 f))) k69_322 hB rfl rfl (by omega) b322.1 ?_
                          refine r_aload k69_323 rfl ?_
                          refine j_ref (b := 49) k69_324 hB rfl ?_
                          refine r_aload k69_327 rfl ?_
                          refine j_ref (b := 63) k69_328 hB rfl ?_
                          refine r_aload k69_331 rfl ?_
                          have b332 := ty_f hT (q := 36) (j := 38) (B := 13) (by decide) (by decide)
                          refine j_get (j := 38) (v := (nI (jn J 36 38))) k69_332 hB rfl b332.1 ?_
                          refine r_pushn (v := nI 1) k69_335 rfl ?_
                          refine r_isubN (by omega) k69_336 ?_
                          have b337 := ty_n hT (q := 63) (B := 5) (by decide) (by decide) ((jn J 36 38) - 1)
                          refine j_ald (n := 13) (j := ((jn J 36 38) - 1)) (v := (nI (jn J 63 ((jn J 36 38) - 1)))) k69_337 hB rfl rfl (by omega) b337.1 ?_
                          have b338 := ty_n hT (q := 49) (B := 3) (by decide) (by decide) (jn J 63 ((jn J 36 38) - 1))
                          refine j_ald (n := 5) (j := (jn J 63 ((jn J 36 38) - 1))) (v := (nI (jn J 49 (jn J 63 ((jn J 36 38) - 1))))) k69_338 hB rfl rfl (by omega) b338.1 ?_
                          refine r_pushn (v := nI 2) k69_339 rfl ?_
                          refine r_icmpneN (by omega) (by omega) k69_340 (fun z340 => ?_) (fun z340 => ?_)
                          · refine r_aload k69_352 rfl ?_
                            refine j_ref (b := 69) k69_353 hB rfl ?_
                            refine r_iload k69_356 rfl ?_
                            have b357 := ty_n hT (q := 69) (B := 12) (by decide) (by decide) f
                            refine j_ald (n := 320) (j := f) (v := (nI (jn J 69 f))) k69_357 hB rfl rfl (by omega) b357.1 ?_
                            refine j_call (ml := 8) k69_358 rfl (show 0 < d.1 by omega) (show 19 + 8 ≤ d.2 by omega) ⟨Nat.le_of_ble_eq_true rfl, Nat.le_of_ble_eq_true rfl, am_obB hB rfl, Nat.le_of_ble_eq_true rfl⟩ rfl (rest := []) rfl (s_R_enter hB hT (jx a) (jn J 69 f) (jn J 69 f) (by omega) (by omega) (by omega) (by omega) (ht) (show 4 ≤ d.1 - 1 by omega) (show 96 ≤ d.2 - 27 by omega)) (fun r h1 hq => ?_)
                            obtain ⟨rfl, rfl, hT358⟩ := hq
                            show am_wp _ _ _ [some (.ref 36), some (.int (nI (f))), some (.int (nI (op))), some (.int (nI (jx a))), some (.int (nI (jn J 65 f))), some (.int (nI 0)), none, none, none] [.int ((R_enter J (jx a) (jn J 69 f) (jn J 69 f)).1)] _ _
                            have e9 : R_act J f op a = ((((R_enter J (jx a) (jn J 69 f) (jn J 69 f)).1), (R_enter J (jx a) (jn J 69 f) (jn J 69 f)).2)) := by unfold R_act; rw [am_ite_f z10, am_ite_t z40, am_ite_f y51_0, am_ite_f y51_1, am_ite_f y51_2, am_ite_f y51_3, am_ite_f y51_4, am_ite_f y51_5, am_ite_f y51_6, am_ite_t y51_7, am_ite_f z289, am_ite_f z305, am_ite_f z340]
                            exact r_zret k69_361 rfl (zb_R_enter) ⟨by rw [e9], by rw [e9], by rw [e9]; exact hT358⟩
                          · refine r_aload k69_343 rfl ?_
                            refine j_ref (b := 70) k69_344 hB rfl ?_
                            refine r_iload k69_347 rfl ?_
                            have b348 := ty_n hT (q := 70) (B := 12) (by decide) (by decide) f
                            refine j_ald (n := 320) (j := f) (v := (nI (jn J 70 f))) k69_348 hB rfl rfl (by omega) b348.1 ?_
                            refine r_goto k69_349 ?_
                            refine j_call (ml := 8) k69_358 rfl (show 0 < d.1 by omega) (show 19 + 8 ≤ d.2 by omega) ⟨Nat.le_of_ble_eq_true rfl, Nat.le_of_ble_eq_true rfl, am_obB hB rfl, Nat.le_of_ble_eq_true rfl⟩ rfl (rest := []) rfl (s_R_enter hB hT (jx a) (jn J 69 f) (jn J 70 f) (by omega) (by omega) (by omega) (by omega) (ht) (show 4 ≤ d.1 - 1 by omega) (show 96 ≤ d.2 - 27 by omega)) (fun r h1 hq => ?_)
                            obtain ⟨rfl, rfl, hT358⟩ := hq
                            show am_wp _ _ _ [some (.ref 36), some (.int (nI (f))), some (.int (nI (op))), some (.int (nI (jx a))), some (.int (nI (jn J 65 f))), some (.int (nI 0)), none, none, none] [.int ((R_enter J (jx a) (jn J 69 f) (jn J 70 f)).1)] _ _
                            have e9 : R_act J f op a = ((((R_enter J (jx a) (jn J 69 f) (jn J 70 f)).1), (R_enter J (jx a) (jn J 69 f) (jn J 70 f)).2)) := by unfold R_act; rw [am_ite_f z10, am_ite_t z40, am_ite_f y51_0, am_ite_f y51_1, am_ite_f y51_2, am_ite_f y51_3, am_ite_f y51_4, am_ite_f y51_5, am_ite_f y51_6, am_ite_t y51_7, am_ite_f z289, am_ite_f z305, am_ite_t z340]
                            exact r_zret k69_361 rfl (zb_R_enter) ⟨by rw [e9], by rw [e9], by rw [e9]; exact hT358⟩
                        · refine r_aload k69_308 rfl ?_
                          refine r_pushn (v := (-11)) k69_309 rfl ?_
                          refine j_call (ml := 2) k69_311 rfl (show 0 < d.1 by omega) (show 19 + 2 ≤ d.2 by omega) ⟨Nat.le_of_ble_eq_true rfl, Nat.le_of_ble_eq_true rfl, am_obB hB rfl, Nat.le_of_ble_eq_true rfl⟩ rfl (rest := []) rfl (s_R_stop hB hT ((-11))) (fun r h1 hq => ?_)
                          obtain ⟨rfl, rfl, hT311⟩ := hq
                          show am_wp _ _ _ [some (.ref 36), some (.int (nI (f))), some (.int (nI (op))), some (.int (nI (jx a))), some (.int (nI (jn J 65 f))), some (.int (nI 0)), none, none, none] [.int ((R_stop J ((-11))).1)] _ _
                          rw [show (R_stop J ((-11))).1 = nI 0 from rfl]
                          have e9 : R_act J f op a = (((nI 0), (R_stop J ((-11))).2)) := by unfold R_act; rw [am_ite_f z10, am_ite_t z40, am_ite_f y51_0, am_ite_f y51_1, am_ite_f y51_2, am_ite_f y51_3, am_ite_f y51_4, am_ite_f y51_5, am_ite_f y51_6, am_ite_t y51_7, am_ite_f z289, am_ite_t z305]
                          exact r_zret k69_314 rfl (by decide) ⟨by rw [e9], by rw [e9], by rw [e9]; exact hT311⟩
                      · refine r_aload k69_292 rfl ?_
                        refine r_pushn (v := (-2)) k69_293 rfl ?_
                        refine j_call (ml := 2) k69_295 rfl (show 0 < d.1 by omega) (show 19 + 2 ≤ d.2 by omega) ⟨Nat.le_of_ble_eq_true rfl, Nat.le_of_ble_eq_true rfl, am_obB hB rfl, Nat.le_of_ble_eq_true rfl⟩ rfl (rest := []) rfl (s_R_stop hB hT ((-2))) (fun r h1 hq => ?_)
                        obtain ⟨rfl, rfl, hT295⟩ := hq
                        show am_wp _ _ _ [some (.ref 36), some (.int (nI (f))), some (.int (nI (op))), some (.int (nI (jx a))), some (.int (nI (jn J 65 f))), some (.int (nI 0)), none, none, none] [.int ((R_stop J ((-2))).1)] _ _
                        rw [show (R_stop J ((-2))).1 = nI 0 from rfl]
                        have e9 : R_act J f op a = (((nI 0), (R_stop J ((-2))).2)) := by unfold R_act; rw [am_ite_f z10, am_ite_t z40, am_ite_f y51_0, am_ite_f y51_1, am_ite_f y51_2, am_ite_f y51_3, am_ite_f y51_4, am_ite_f y51_5, am_ite_f y51_6, am_ite_t y51_7, am_ite_t z289]
                        exact r_zret k69_298 rfl (by decide) ⟨by rw [e9], by rw [e9], by rw [e9]; exact hT295⟩
                    · by_cases y51_8 : op = 8
                      · refine r_tsIn k69_51 (by rw [y51_8]; decide) (t := 362) (by rw [y51_8]; rfl) ?_
                        refine r_aload k69_362 rfl ?_
                        refine r_aload k69_363 rfl ?_
                        refine j_ref (b := 69) k69_364 hB rfl ?_
                        refine r_iload k69_367 rfl ?_
                        have b368 := ty_n hT (q := 69) (B := 12) (by decide) (by decide) f
                        refine j_ald (n := 320) (j := f) (v := (nI (jn J 69 f))) k69_368 hB rfl rfl (by omega) b368.1 ?_
                        refine r_iload k69_369 rfl ?_
                        refine j_call (ml := 3) k69_370 rfl (show 0 < d.1 by omega) (show 19 + 3 ≤ d.2 by omega) ⟨Nat.le_of_ble_eq_true rfl, Nat.le_of_ble_eq_true rfl, am_obB hB rfl, Nat.le_of_ble_eq_true rfl⟩ rfl (rest := []) rfl (s_R_become hB hT (nI (jn J 69 f)) a (show 4 ≤ d.1 - 1 by omega) (show 94 ≤ d.2 - 22 by omega)) (fun r h1 hq => ?_)
                        obtain ⟨rfl, rfl, hT370⟩ := hq
                        show am_wp _ _ _ [some (.ref 36), some (.int (nI (f))), some (.int (nI (op))), some (.int (a)), some (.int (nI (jn J 65 f))), some (.int (nI 0)), none, none, none] [.int ((R_become J (nI (jn J 69 f)) a).1)] _ _
                        refine r_pushn (v := nI 1) k69_373 rfl ?_
                        refine r_icmpeq k69_374 (fun z374 => ?_) (fun z374 => ?_)
                        · refine r_pushn (v := nI 1) k69_386 rfl ?_
                          refine r_goto k69_387 ?_
                          have e9 : R_act J f op a = (((nI 1), (R_become J (nI (jn J 69 f)) a).2)) := by unfold R_act; rw [am_ite_f z10, am_ite_t z40, am_ite_f y51_0, am_ite_f y51_1, am_ite_f y51_2, am_ite_f y51_3, am_ite_f y51_4, am_ite_f y51_5, am_ite_f y51_6, am_ite_f y51_7, am_ite_t y51_8, am_ite_t z374]
                          exact r_zret k69_391 rfl (by decide) ⟨by rw [e9], by rw [e9], by rw [e9]; exact hT370⟩
                        · refine r_aload k69_377 rfl ?_
                          refine r_pushn (v := (-2)) k69_378 rfl ?_
                          refine j_call (ml := 2) k69_380 rfl (show 0 < d.1 by omega) (show 19 + 2 ≤ d.2 by omega) ⟨Nat.le_of_ble_eq_true rfl, Nat.le_of_ble_eq_true rfl, am_obB hB rfl, Nat.le_of_ble_eq_true rfl⟩ rfl (rest := []) rfl (s_R_stop hB hT370 ((-2))) (fun r h1 hq => ?_)
                          obtain ⟨rfl, rfl, hT380⟩ := hq
                          show am_wp _ _ _ [some (.ref 36), some (.int (nI (f))), some (.int (nI (op))), some (.int (a)), some (.int (nI (jn J 65 f))), some (.int (nI 0)), none, none, none] [.int ((R_stop ((R_become J (nI (jn J 69 f)) a).2) ((-2))).1)] _ _
                          rw [show (R_stop ((R_become J (nI (jn J 69 f)) a).2) ((-2))).1 = nI 0 from rfl]
                          refine r_ifeqN (by omega) k69_383 (fun _ => ?_) (fun z => absurd z (by decide))
                          refine r_pushn (v := nI 0) k69_390 rfl ?_
                          have e9 : R_act J f op a = (((nI 0), (R_stop ((R_become J (nI (jn J 69 f)) a).2) ((-2))).2)) := by unfold R_act; rw [am_ite_f z10, am_ite_t z40, am_ite_f y51_0, am_ite_f y51_1, am_ite_f y51_2, am_ite_f y51_3, am_ite_f y51_4, am_ite_f y51_5, am_ite_f y51_6, am_ite_f y51_7, am_ite_t y51_8, am_ite_f z374]
                          exact r_zret k69_391 rfl (by decide) ⟨by rw [e9], by rw [e9], by rw [e9]; exact hT380⟩
                      · refine am_tsd k69_51 (fun v h1 h2 => ?_) (fun v h1 h2 e1 => ?_) ?_
                        · rcases (show v = 0 ∨ v = 1 ∨ v = 2 ∨ v = 3 ∨ v = 4 ∨ v = 5 ∨ v = 6 ∨ v = 7 ∨ v = 8 by omega) with rfl | rfl | rfl | rfl | rfl | rfl | rfl | rfl | rfl
                          · exact Or.inl (fun q => y51_0 ((nI_eq (by omega) (by decide)).mp q))
                          · exact Or.inl (fun q => y51_1 ((nI_eq (by omega) (by decide)).mp q))
                          · exact Or.inl (fun q => y51_2 ((nI_eq (by omega) (by decide)).mp q))
                          · exact Or.inl (fun q => y51_3 ((nI_eq (by omega) (by decide)).mp q))
                          · exact Or.inl (fun q => y51_4 ((nI_eq (by omega) (by decide)).mp q))
                          · exact Or.inl (fun q => y51_5 ((nI_eq (by omega) (by decide)).mp q))
                          · exact Or.inl (fun q => y51_6 ((nI_eq (by omega) (by decide)).mp q))
                          · exact Or.inl (fun q => y51_7 ((nI_eq (by omega) (by decide)).mp q))
                          · exact Or.inl (fun q => y51_8 ((nI_eq (by omega) (by decide)).mp q))
                        · exact rfl
                        · refine r_aload k69_392 rfl ?_
                          refine j_ref (b := 49) k69_393 hB rfl ?_
                          refine r_aload k69_396 rfl ?_
                          refine j_ref (b := 63) k69_397 hB rfl ?_
                          refine r_aload k69_400 rfl ?_
                          have b401 := ty_f hT (q := 36) (j := 38) (B := 13) (by decide) (by decide)
                          refine j_get (j := 38) (v := (nI (jn J 36 38))) k69_401 hB rfl b401.1 ?_
                          refine r_pushn (v := nI 1) k69_404 rfl ?_
                          refine r_isubN (by omega) k69_405 ?_
                          have b406 := ty_n hT (q := 63) (B := 5) (by decide) (by decide) ((jn J 36 38) - 1)
                          refine j_ald (n := 13) (j := ((jn J 36 38) - 1)) (v := (nI (jn J 63 ((jn J 36 38) - 1)))) k69_406 hB rfl rfl (by omega) b406.1 ?_
                          have b407 := ty_n hT (q := 49) (B := 3) (by decide) (by decide) (jn J 63 ((jn J 36 38) - 1))
                          refine j_ald (n := 5) (j := (jn J 63 ((jn J 36 38) - 1))) (v := (nI (jn J 49 (jn J 63 ((jn J 36 38) - 1))))) k69_407 hB rfl rfl (by omega) b407.1 ?_
                          refine r_pushn (v := nI 2) k69_408 rfl ?_
                          refine r_icmpgeN (by omega) (by omega) k69_409 (fun z409 => ?_) (fun z409 => ?_)
                          · refine r_aload k69_414 rfl ?_
                            refine j_ref (b := 69) k69_415 hB rfl ?_
                            refine r_iload k69_418 rfl ?_
                            have b419 := ty_n hT (q := 69) (B := 12) (by decide) (by decide) f
                            refine j_ald (n := 320) (j := f) (v := (nI (jn J 69 f))) k69_419 hB rfl rfl (by omega) b419.1 ?_
                            refine r_istore (L' := [some (.ref 36), some (.int (nI (f))), some (.int (nI (op))), some (.int (a)), some (.int (nI (jn J 65 f))), some (.int (nI 0)), none, none, some (.int (nI (jn J 69 f)))]) k69_420 (Nat.le_of_ble_eq_true rfl) rfl ?_
                            refine r_aload k69_422 rfl ?_
                            refine j_ref (b := 69) k69_423 hB rfl ?_
                            refine r_iload k69_426 rfl ?_
                            refine r_aload k69_427 rfl ?_
                            refine j_ref (b := 70) k69_428 hB rfl ?_
                            refine r_iload k69_431 rfl ?_
                            have b432 := ty_n hT (q := 70) (B := 12) (by decide) (by decide) f
                            refine j_ald (n := 320) (j := f) (v := (nI (jn J 70 f))) k69_432 hB rfl rfl (by omega) b432.1 ?_
                            refine j_ast (n := 320) (j := f) k69_433 hB rfl rfl (by omega) ?_
                            have hT433 : am_ty2 (am_u2 J 69 f (nI (jn J 70 f))) := ty_w hT (tw_n (B := 12) (by decide) (by decide) (by decide) (by omega))
                            refine r_aload k69_434 rfl ?_
                            refine j_ref (b := 70) k69_435 hB rfl ?_
                            refine r_iload k69_438 rfl ?_
                            refine r_iload k69_439 rfl ?_
                            refine j_ast (n := 320) (j := f) k69_441 hB rfl rfl (by omega) ?_
                            have hT441 : am_ty2 (am_u2 (am_u2 J 69 f (nI (jn J 70 f))) 70 f (nI (jn J 69 f))) := ty_w hT433 (tw_n (B := 12) (by decide) (by decide) (by decide) (by omega))
                            refine r_pushn (v := nI 1) k69_442 rfl ?_
                            have e9 : R_act J f op a = (((nI 1), am_u2 (am_u2 J 69 f (nI (jn J 70 f))) 70 f (nI (jn J 69 f)))) := by unfold R_act; rw [am_ite_f z10, am_ite_t z40, am_ite_f y51_0, am_ite_f y51_1, am_ite_f y51_2, am_ite_f y51_3, am_ite_f y51_4, am_ite_f y51_5, am_ite_f y51_6, am_ite_f y51_7, am_ite_f y51_8, am_ite_t z409]
                            exact r_zret k69_443 rfl (by decide) ⟨by rw [e9], by rw [e9], by rw [e9]; exact hT441⟩
                          · refine r_pushn (v := nI 1) k69_412 rfl ?_
                            have e9 : R_act J f op a = (((nI 1), J)) := by unfold R_act; rw [am_ite_f z10, am_ite_t z40, am_ite_f y51_0, am_ite_f y51_1, am_ite_f y51_2, am_ite_f y51_3, am_ite_f y51_4, am_ite_f y51_5, am_ite_f y51_6, am_ite_f y51_7, am_ite_f y51_8, am_ite_f z409]
                            exact r_zret k69_413 rfl (by decide) ⟨by rw [e9], by rw [e9], by rw [e9]; exact hT⟩
    · refine r_pushn (v := nI 1) k69_43 rfl ?_
      refine r_goto k69_44 ?_
      refine r_istore (L' := [some (.ref 36), some (.int (nI (f))), some (.int (nI (op))), some (.int (a)), some (.int (nI (jn J 65 f))), some (.int (nI 1)), none, none, none]) k69_48 (Nat.le_of_ble_eq_true rfl) rfl ?_
      refine r_iload k69_50 rfl ?_
      by_cases y51_0 : op = 0
      · refine r_tsIn k69_51 (by rw [y51_0]; decide) (t := 100) (by rw [y51_0]; rfl) ?_
        refine r_aload k69_100 rfl ?_
        refine j_ref (b := 68) k69_101 hB rfl ?_
        refine r_iload k69_104 rfl ?_
        refine r_iload k69_105 rfl ?_
        refine j_ast (n := 320) (j := f) k69_106 hB rfl rfl (by omega) ?_
        have hT106 : am_ty2 (am_u2 J 68 f a) := ty_w hT (tw_a (by decide) (by decide) (by decide))
        refine r_pushn (v := nI 1) k69_107 rfl ?_
        have e9 : R_act J f op a = (((nI 1), am_u2 J 68 f a)) := by unfold R_act; rw [am_ite_f z10, am_ite_f z40, am_ite_t y51_0]
        exact r_zret k69_108 rfl (by decide) ⟨by rw [e9], by rw [e9], by rw [e9]; exact hT106⟩
      · by_cases y51_1 : op = 1
        · refine r_tsIn k69_51 (by rw [y51_1]; decide) (t := 109) (by rw [y51_1]; rfl) ?_
          refine r_aload k69_109 rfl ?_
          refine j_ref (b := 68) k69_110 hB rfl ?_
          refine r_iload k69_113 rfl ?_
          refine r_dup2 rfl rfl k69_114 ?_
          refine j_ald (n := 320) (j := f) (v := (J 68 f)) k69_115 hB rfl rfl (by omega) rfl ?_
          refine r_iload k69_116 rfl ?_
          refine r_iadd k69_117 ?_
          refine j_ast (n := 320) (j := f) k69_118 hB rfl rfl (by omega) ?_
          have hT118 : am_ty2 (am_u2 J 68 f ((J 68 f) + a)) := ty_w hT (tw_a (by decide) (by decide) (by decide))
          refine r_pushn (v := nI 1) k69_119 rfl ?_
          have e9 : R_act J f op a = (((nI 1), am_u2 J 68 f ((J 68 f) + a))) := by unfold R_act; rw [am_ite_f z10, am_ite_f z40, am_ite_f y51_0, am_ite_t y51_1]
          exact r_zret k69_120 rfl (by decide) ⟨by rw [e9], by rw [e9], by rw [e9]; exact hT118⟩
        · by_cases y51_2 : op = 2
          · refine r_tsIn k69_51 (by rw [y51_2]; decide) (t := 121) (by rw [y51_2]; rfl) ?_
            refine r_aload k69_121 rfl ?_
            refine r_aload k69_122 rfl ?_
            refine j_ref (b := 69) k69_123 hB rfl ?_
            refine r_iload k69_126 rfl ?_
            have b127 := ty_n hT (q := 69) (B := 12) (by decide) (by decide) f
            refine j_ald (n := 320) (j := f) (v := (nI (jn J 69 f))) k69_127 hB rfl rfl (by omega) b127.1 ?_
            refine r_iload k69_128 rfl ?_
            refine j_call (ml := 4) k69_129 rfl (show 0 < d.1 by omega) (show 19 + 4 ≤ d.2 by omega) ⟨Nat.le_of_ble_eq_true rfl, Nat.le_of_ble_eq_true rfl, am_obB hB rfl, Nat.le_of_ble_eq_true rfl⟩ rfl (rest := []) rfl (s_R_get hB hT (nI (jn J 69 f)) a (show 5 ≤ d.1 - 1 by omega) (show 117 ≤ d.2 - 23 by omega)) (fun r h1 hq => ?_)
            obtain ⟨rfl, rfl, hT129⟩ := hq
            show am_wp _ _ _ [some (.ref 36), some (.int (nI (f))), some (.int (nI (op))), some (.int (a)), some (.int (nI (jn J 65 f))), some (.int (nI 1)), none, none, none] [.long ((R_get J (nI (jn J 69 f)) a).1)] _ _
            refine r_lstore (L' := [some (.ref 36), some (.int (nI (f))), some (.int (nI (op))), some (.int (a)), some (.int (nI (jn J 65 f))), some (.int (nI 1)), some (.long ((R_get J (nI (jn J 69 f)) a).1)), none, none]) k69_132 (Nat.le_of_ble_eq_true rfl) rfl ?_
            refine r_lload k69_134 rfl ?_
            refine r_pushl k69_136 ?_
            refine r_lcmp k69_139 ?_
            refine r_ifle k69_140 (fun z140 => ?_) (fun z140 => ?_)
            · refine r_aload k69_145 rfl ?_
              refine j_ref (b := 68) k69_146 hB rfl ?_
              refine r_iload k69_149 rfl ?_
              refine r_dup2 rfl rfl k69_150 ?_
              refine j_ald (n := 320) (j := f) (v := (((R_get J (nI (jn J 69 f)) a).2) 68 f)) k69_151 hB rfl rfl (by omega) rfl ?_
              refine r_lload k69_152 rfl ?_
              refine r_l2i k69_154 ?_
              refine r_iadd k69_155 ?_
              refine j_ast (n := 320) (j := f) k69_156 hB rfl rfl (by omega) ?_
              have hT156 : am_ty2 (am_u2 ((R_get J (nI (jn J 69 f)) a).2) 68 f ((((R_get J (nI (jn J 69 f)) a).2) 68 f) + (((R_get J (nI (jn J 69 f)) a).1).toInt32))) := ty_w hT129 (tw_a (by decide) (by decide) (by decide))
              refine r_pushn (v := nI 1) k69_157 rfl ?_
              have e9 : R_act J f op a = (((nI 1), am_u2 ((R_get J (nI (jn J 69 f)) a).2) 68 f ((((R_get J (nI (jn J 69 f)) a).2) 68 f) + (((R_get J (nI (jn J 69 f)) a).1).toInt32)))) := by unfold R_act; rw [am_ite_f z10, am_ite_f z40, am_ite_f y51_0, am_ite_f y51_1, am_ite_t y51_2, am_ite_t z140]
              exact r_zret k69_158 rfl (by decide) ⟨by rw [e9], by rw [e9], by rw [e9]; exact hT156⟩
            · refine r_pushn (v := nI 0) k69_143 rfl ?_
              have e9 : R_act J f op a = (((nI 0), (R_get J (nI (jn J 69 f)) a).2)) := by unfold R_act; rw [am_ite_f z10, am_ite_f z40, am_ite_f y51_0, am_ite_f y51_1, am_ite_t y51_2, am_ite_f z140]
              exact r_zret k69_144 rfl (by decide) ⟨by rw [e9], by rw [e9], by rw [e9]; exact hT129⟩
          · by_cases y51_3 : op = 3
            · refine r_tsIn k69_51 (by rw [y51_3]; decide) (t := 159) (by rw [y51_3]; rfl) ?_
              refine r_aload k69_159 rfl ?_
              refine r_aload k69_160 rfl ?_
              refine j_ref (b := 69) k69_161 hB rfl ?_
              refine r_iload k69_164 rfl ?_
              have b165 := ty_n hT (q := 69) (B := 12) (by decide) (by decide) f
              refine j_ald (n := 320) (j := f) (v := (nI (jn J 69 f))) k69_165 hB rfl rfl (by omega) b165.1 ?_
              refine r_iload k69_166 rfl ?_
              refine r_aload k69_167 rfl ?_
              refine j_ref (b := 68) k69_168 hB rfl ?_
              refine r_iload k69_171 rfl ?_
              refine j_ald (n := 320) (j := f) (v := (J 68 f)) k69_172 hB rfl rfl (by omega) rfl ?_
              refine j_call (ml := 5) k69_173 rfl (show 0 < d.1 by omega) (show 19 + 5 ≤ d.2 by omega) ⟨Nat.le_of_ble_eq_true rfl, Nat.le_of_ble_eq_true rfl, am_obB hB rfl, Nat.le_of_ble_eq_true rfl⟩ rfl (rest := []) rfl (s_R_put hB hT (nI (jn J 69 f)) a (J 68 f) (show 5 ≤ d.1 - 1 by omega) (show 117 ≤ d.2 - 24 by omega)) (fun r h1 hq => ?_)
              obtain ⟨rfl, rfl, hT173⟩ := hq
              show am_wp _ _ _ [some (.ref 36), some (.int (nI (f))), some (.int (nI (op))), some (.int (a)), some (.int (nI (jn J 65 f))), some (.int (nI 1)), none, none, none] [.long ((R_put J (nI (jn J 69 f)) a (J 68 f)).1)] _ _
              refine r_pushl k69_176 ?_
              refine r_lcmp k69_177 ?_
              refine r_ifne k69_178 (fun z178 => ?_) (fun z178 => ?_)
              · refine r_pushn (v := nI 0) k69_185 rfl ?_
                have e9 : R_act J f op a = (((nI 0), (R_put J (nI (jn J 69 f)) a (J 68 f)).2)) := by unfold R_act; rw [am_ite_f z10, am_ite_f z40, am_ite_f y51_0, am_ite_f y51_1, am_ite_f y51_2, am_ite_t y51_3, am_ite_f z178]
                exact r_zret k69_186 rfl (by decide) ⟨by rw [e9], by rw [e9], by rw [e9]; exact hT173⟩
              · refine r_pushn (v := nI 1) k69_181 rfl ?_
                refine r_goto k69_182 ?_
                have e9 : R_act J f op a = (((nI 1), (R_put J (nI (jn J 69 f)) a (J 68 f)).2)) := by unfold R_act; rw [am_ite_f z10, am_ite_f z40, am_ite_f y51_0, am_ite_f y51_1, am_ite_f y51_2, am_ite_t y51_3, am_ite_t z178]
                exact r_zret k69_186 rfl (by decide) ⟨by rw [e9], by rw [e9], by rw [e9]; exact hT173⟩
            · by_cases y51_4 : op = 4
              · refine r_tsIn k69_51 (by rw [y51_4]; decide) (t := 187) (by rw [y51_4]; rfl) ?_
                refine r_iload k69_187 rfl ?_
                refine r_ifeqN (by omega) k69_189 (fun z => absurd z (by decide)) (fun _ => ?_)
                refine r_aload k69_192 rfl ?_
                refine r_pushn (v := (-10)) k69_193 rfl ?_
                refine j_call (ml := 2) k69_195 rfl (show 0 < d.1 by omega) (show 19 + 2 ≤ d.2 by omega) ⟨Nat.le_of_ble_eq_true rfl, Nat.le_of_ble_eq_true rfl, am_obB hB rfl, Nat.le_of_ble_eq_true rfl⟩ rfl (rest := []) rfl (s_R_stop hB hT ((-10))) (fun r h1 hq => ?_)
                obtain ⟨rfl, rfl, hT195⟩ := hq
                show am_wp _ _ _ [some (.ref 36), some (.int (nI (f))), some (.int (nI (op))), some (.int (a)), some (.int (nI (jn J 65 f))), some (.int (nI 1)), none, none, none] [.int ((R_stop J ((-10))).1)] _ _
                rw [show (R_stop J ((-10))).1 = nI 0 from rfl]
                have e9 : R_act J f op a = (((nI 0), (R_stop J ((-10))).2)) := by unfold R_act; rw [am_ite_f z10, am_ite_f z40, am_ite_f y51_0, am_ite_f y51_1, am_ite_f y51_2, am_ite_f y51_3, am_ite_t y51_4]
                exact r_zret k69_198 rfl (by decide) ⟨by rw [e9], by rw [e9], by rw [e9]; exact hT195⟩
              · by_cases y51_5 : op = 5
                · refine r_tsIn k69_51 (by rw [y51_5]; decide) (t := 215) (by rw [y51_5]; rfl) ?_
                  refine r_aload k69_215 rfl ?_
                  refine j_ref (b := 68) k69_216 hB rfl ?_
                  refine r_iload k69_219 rfl ?_
                  refine r_iload k69_220 rfl ?_
                  refine r_ifeqN (by omega) k69_222 (fun z => absurd z (by decide)) (fun _ => ?_)
                  refine r_pushn (v := nI 0) k69_225 rfl ?_
                  refine r_goto k69_226 ?_
                  refine j_ast (n := 320) (j := f) k69_230 hB rfl rfl (by omega) ?_
                  have hT230 : am_ty2 (am_u2 J 68 f (nI 0)) := ty_w hT (tw_a (by decide) (by decide) (by decide))
                  refine r_pushn (v := nI 1) k69_231 rfl ?_
                  have e9 : R_act J f op a = (((nI 1), am_u2 J 68 f (nI 0))) := by unfold R_act; rw [am_ite_f z10, am_ite_f z40, am_ite_f y51_0, am_ite_f y51_1, am_ite_f y51_2, am_ite_f y51_3, am_ite_f y51_4, am_ite_t y51_5]
                  exact r_zret k69_232 rfl (by decide) ⟨by rw [e9], by rw [e9], by rw [e9]; exact hT230⟩
                · by_cases y51_6 : op = 6
                  · refine r_tsIn k69_51 (by rw [y51_6]; decide) (t := 233) (by rw [y51_6]; rfl) ?_
                    refine r_pushn (v := nI 19) k69_233 rfl ?_
                    refine r_istore (L' := [some (.ref 36), some (.int (nI (f))), some (.int (nI (op))), some (.int (a)), some (.int (nI (jn J 65 f))), some (.int (nI 1)), none, none, some (.int (nI 19))]) k69_235 (Nat.le_of_ble_eq_true rfl) rfl ?_
                    refine wp_L (L := [some (.ref 36), some (.int (nI (f))), none, some (.int (a)), none, none, none, none, some (.int (nI 19))]) (⟨Or.inr rfl, Or.inr rfl, Or.inl rfl, Or.inr rfl, Or.inl rfl, Or.inl rfl, Or.inl rfl, Or.inl rfl, Or.inr rfl, True.intro⟩) (l_R_nt hB f a hd hw 19 J hT (by omega) (fun hT9R_nt => ?_))
                    have e9 : R_act J f op a = (R_n9 f a ((R_nt f a 19 J))) := by unfold R_act ; rw [am_ite_f z10, am_ite_f z40, am_ite_f y51_0, am_ite_f y51_1, am_ite_f y51_2, am_ite_f y51_3, am_ite_f y51_4, am_ite_f y51_5, am_ite_t y51_6]
                    exact (l_R_n9 hB f a hd hw hT9R_nt (fun hT9 => ⟨by rw [e9], by rw [e9], by rw [e9]; exact hT9⟩))
                  · by_cases y51_7 : op = 7
                    · refine r_tsIn k69_51 (by rw [y51_7]; decide) (t := 283) (by rw [y51_7]; rfl) ?_
                      have ca := ha y51_7
                      rw [show ([some (.ref 36), some (.int (nI (f))), some (.int (nI (op))), some (.int (a)), some (.int (nI (jn J 65 f))), some (.int (nI 1)), none, none, none] : am_L) = [some (.ref 36), some (.int (nI (f))), some (.int (nI (op))), some (.int (nI (jx a))), some (.int (nI (jn J 65 f))), some (.int (nI 1)), none, none, none] by rw [← ca.1]]
                      refine r_aload k69_283 rfl ?_
                      refine j_ref (b := 49) k69_284 hB rfl ?_
                      refine r_iload k69_287 rfl ?_
                      have b288 := ty_n hT (q := 49) (B := 3) (by decide) (by decide) (jx a)
                      refine j_ald (n := 5) (j := (jx a)) (v := (nI (jn J 49 (jx a)))) k69_288 hB rfl rfl (by omega) b288.1 ?_
                      refine r_ifneN (by omega) k69_289 (fun z289 => ?_) (fun z289 => ?_)
                      · refine r_aload k69_299 rfl ?_
                        have b300 := ty_f hT (q := 36) (j := 38) (B := 13) (by decide) (by decide)
                        refine j_get (j := 38) (v := (nI (jn J 36 38))) k69_300 hB rfl b300.1 ?_
                        refine r_pushn (v := nI 12) k69_303 rfl ?_
                        refine r_icmpneN (by omega) (by omega) k69_305 (fun z305 => ?_) (fun z305 => ?_)
                        · refine r_aload k69_315 rfl ?_
                          refine r_iload k69_316 rfl ?_
                          refine r_aload k69_317 rfl ?_
                          refine j_ref (b := 69) k69_318 hB rfl ?_
                          refine r_iload k69_321 rfl ?_
                          have b322 := ty_n hT (q := 69) (B := 12) (by decide) (by decide) f
                          refine j_ald (n := 320) (j := f) (v := (nI (jn J 69 f))) k69_322 hB rfl rfl (by omega) b322.1 ?_
                          refine r_aload k69_323 rfl ?_
                          refine j_ref (b := 49) k69_324 hB rfl ?_
                          refine r_aload k69_327 rfl ?_
                          refine j_ref (b := 63) k69_328 hB rfl ?_
                          refine r_aload k69_331 rfl ?_
                          have b332 := ty_f hT (q := 36) (j := 38) (B := 13) (by decide) (by decide)
                          refine j_get (j := 38) (v := (nI (jn J 36 38))) k69_332 hB rfl b332.1 ?_
                          refine r_pushn (v := nI 1) k69_335 rfl ?_
                          refine r_isubN (by omega) k69_336 ?_
                          have b337 := ty_n hT (q := 63) (B := 5) (by decide) (by decide) ((jn J 36 38) - 1)
                          refine j_ald (n := 13) (j := ((jn J 36 38) - 1)) (v := (nI (jn J 63 ((jn J 36 38) - 1)))) k69_337 hB rfl rfl (by omega) b337.1 ?_
                          have b338 := ty_n hT (q := 49) (B := 3) (by decide) (by decide) (jn J 63 ((jn J 36 38) - 1))
                          refine j_ald (n := 5) (j := (jn J 63 ((jn J 36 38) - 1))) (v := (nI (jn J 49 (jn J 63 ((jn J 36 38) - 1))))) k69_338 hB rfl rfl (by omega) b338.1 ?_
                          refine r_pushn (v := nI 2) k69_339 rfl ?_
                          refine r_icmpneN (by omega) (by omega) k69_340 (fun z340 => ?_) (fun z340 => ?_)
                          · refine r_aload k69_352 rfl ?_
                            refine j_ref (b := 69) k69_353 hB rfl ?_
                            refine r_iload k69_356 rfl ?_
                            have b357 := ty_n hT (q := 69) (B := 12) (by decide) (by decide) f
                            refine j_ald (n := 320) (j := f) (v := (nI (jn J 69 f))) k69_357 hB rfl rfl (by omega) b357.1 ?_
                            refine j_call (ml := 8) k69_358 rfl (show 0 < d.1 by omega) (show 19 + 8 ≤ d.2 by omega) ⟨Nat.le_of_ble_eq_true rfl, Nat.le_of_ble_eq_true rfl, am_obB hB rfl, Nat.le_of_ble_eq_true rfl⟩ rfl (rest := []) rfl (s_R_enter hB hT (jx a) (jn J 69 f) (jn J 69 f) (by omega) (by omega) (by omega) (by omega) (ht) (show 4 ≤ d.1 - 1 by omega) (show 96 ≤ d.2 - 27 by omega)) (fun r h1 hq => ?_)
                            obtain ⟨rfl, rfl, hT358⟩ := hq
                            show am_wp _ _ _ [some (.ref 36), some (.int (nI (f))), some (.int (nI (op))), some (.int (nI (jx a))), some (.int (nI (jn J 65 f))), some (.int (nI 1)), none, none, none] [.int ((R_enter J (jx a) (jn J 69 f) (jn J 69 f)).1)] _ _
                            have e9 : R_act J f op a = ((((R_enter J (jx a) (jn J 69 f) (jn J 69 f)).1), (R_enter J (jx a) (jn J 69 f) (jn J 69 f)).2)) := by unfold R_act; rw [am_ite_f z10, am_ite_f z40, am_ite_f y51_0, am_ite_f y51_1, am_ite_f y51_2, am_ite_f y51_3, am_ite_f y51_4, am_ite_f y51_5, am_ite_f y51_6, am_ite_t y51_7, am_ite_f z289, am_ite_f z305, am_ite_f z340]
                            exact r_zret k69_361 rfl (zb_R_enter) ⟨by rw [e9], by rw [e9], by rw [e9]; exact hT358⟩
                          · refine r_aload k69_343 rfl ?_
                            refine j_ref (b := 70) k69_344 hB rfl ?_
                            refine r_iload k69_347 rfl ?_
                            have b348 := ty_n hT (q := 70) (B := 12) (by decide) (by decide) f
                            refine j_ald (n := 320) (j := f) (v := (nI (jn J 70 f))) k69_348 hB rfl rfl (by omega) b348.1 ?_
                            refine r_goto k69_349 ?_
                            refine j_call (ml := 8) k69_358 rfl (show 0 < d.1 by omega) (show 19 + 8 ≤ d.2 by omega) ⟨Nat.le_of_ble_eq_true rfl, Nat.le_of_ble_eq_true rfl, am_obB hB rfl, Nat.le_of_ble_eq_true rfl⟩ rfl (rest := []) rfl (s_R_enter hB hT (jx a) (jn J 69 f) (jn J 70 f) (by omega) (by omega) (by omega) (by omega) (ht) (show 4 ≤ d.1 - 1 by omega) (show 96 ≤ d.2 - 27 by omega)) (fun r h1 hq => ?_)
                            obtain ⟨rfl, rfl, hT358⟩ := hq
                            show am_wp _ _ _ [some (.ref 36), some (.int (nI (f))), some (.int (nI (op))), some (.int (nI (jx a))), some (.int (nI (jn J 65 f))), some (.int (nI 1)), none, none, none] [.int ((R_enter J (jx a) (jn J 69 f) (jn J 70 f)).1)] _ _
                            have e9 : R_act J f op a = ((((R_enter J (jx a) (jn J 69 f) (jn J 70 f)).1), (R_enter J (jx a) (jn J 69 f) (jn J 70 f)).2)) := by unfold R_act; rw [am_ite_f z10, am_ite_f z40, am_ite_f y51_0, am_ite_f y51_1, am_ite_f y51_2, am_ite_f y51_3, am_ite_f y51_4, am_ite_f y51_5, am_ite_f y51_6, am_ite_t y51_7, am_ite_f z289, am_ite_f z305, am_ite_t z340]
                            exact r_zret k69_361 rfl (zb_R_enter) ⟨by rw [e9], by rw [e9], by rw [e9]; exact hT358⟩
                        · refine r_aload k69_308 rfl ?_
                          refine r_pushn (v := (-11)) k69_309 rfl ?_
                          refine j_call (ml := 2) k69_311 rfl (show 0 < d.1 by omega) (show 19 + 2 ≤ d.2 by omega) ⟨Nat.le_of_ble_eq_true rfl, Nat.le_of_ble_eq_true rfl, am_obB hB rfl, Nat.le_of_ble_eq_true rfl⟩ rfl (rest := []) rfl (s_R_stop hB hT ((-11))) (fun r h1 hq => ?_)
                          obtain ⟨rfl, rfl, hT311⟩ := hq
                          show am_wp _ _ _ [some (.ref 36), some (.int (nI (f))), some (.int (nI (op))), some (.int (nI (jx a))), some (.int (nI (jn J 65 f))), some (.int (nI 1)), none, none, none] [.int ((R_stop J ((-11))).1)] _ _
                          rw [show (R_stop J ((-11))).1 = nI 0 from rfl]
                          have e9 : R_act J f op a = (((nI 0), (R_stop J ((-11))).2)) := by unfold R_act; rw [am_ite_f z10, am_ite_f z40, am_ite_f y51_0, am_ite_f y51_1, am_ite_f y51_2, am_ite_f y51_3, am_ite_f y51_4, am_ite_f y51_5, am_ite_f y51_6, am_ite_t y51_7, am_ite_f z289, am_ite_t z305]
                          exact r_zret k69_314 rfl (by decide) ⟨by rw [e9], by rw [e9], by rw [e9]; exact hT311⟩
                      · refine r_aload k69_292 rfl ?_
                        refine r_pushn (v := (-2)) k69_293 rfl ?_
                        refine j_call (ml := 2) k69_295 rfl (show 0 < d.1 by omega) (show 19 + 2 ≤ d.2 by omega) ⟨Nat.le_of_ble_eq_true rfl, Nat.le_of_ble_eq_true rfl, am_obB hB rfl, Nat.le_of_ble_eq_true rfl⟩ rfl (rest := []) rfl (s_R_stop hB hT ((-2))) (fun r h1 hq => ?_)
                        obtain ⟨rfl, rfl, hT295⟩ := hq
                        show am_wp _ _ _ [some (.ref 36), some (.int (nI (f))), some (.int (nI (op))), some (.int (nI (jx a))), some (.int (nI (jn J 65 f))), some (.int (nI 1)), none, none, none] [.int ((R_stop J ((-2))).1)] _ _
                        rw [show (R_stop J ((-2))).1 = nI 0 from rfl]
                        have e9 : R_act J f op a = (((nI 0), (R_stop J ((-2))).2)) := by unfold R_act; rw [am_ite_f z10, am_ite_f z40, am_ite_f y51_0, am_ite_f y51_1, am_ite_f y51_2, am_ite_f y51_3, am_ite_f y51_4, am_ite_f y51_5, am_ite_f y51_6, am_ite_t y51_7, am_ite_t z289]
                        exact r_zret k69_298 rfl (by decide) ⟨by rw [e9], by rw [e9], by rw [e9]; exact hT295⟩
                    · by_cases y51_8 : op = 8
                      · refine r_tsIn k69_51 (by rw [y51_8]; decide) (t := 362) (by rw [y51_8]; rfl) ?_
                        refine r_aload k69_362 rfl ?_
                        refine r_aload k69_363 rfl ?_
                        refine j_ref (b := 69) k69_364 hB rfl ?_
                        refine r_iload k69_367 rfl ?_
                        have b368 := ty_n hT (q := 69) (B := 12) (by decide) (by decide) f
                        refine j_ald (n := 320) (j := f) (v := (nI (jn J 69 f))) k69_368 hB rfl rfl (by omega) b368.1 ?_
                        refine r_iload k69_369 rfl ?_
                        refine j_call (ml := 3) k69_370 rfl (show 0 < d.1 by omega) (show 19 + 3 ≤ d.2 by omega) ⟨Nat.le_of_ble_eq_true rfl, Nat.le_of_ble_eq_true rfl, am_obB hB rfl, Nat.le_of_ble_eq_true rfl⟩ rfl (rest := []) rfl (s_R_become hB hT (nI (jn J 69 f)) a (show 4 ≤ d.1 - 1 by omega) (show 94 ≤ d.2 - 22 by omega)) (fun r h1 hq => ?_)
                        obtain ⟨rfl, rfl, hT370⟩ := hq
                        show am_wp _ _ _ [some (.ref 36), some (.int (nI (f))), some (.int (nI (op))), some (.int (a)), some (.int (nI (jn J 65 f))), some (.int (nI 1)), none, none, none] [.int ((R_become J (nI (jn J 69 f)) a).1)] _ _
                        refine r_pushn (v := nI 1) k69_373 rfl ?_
                        refine r_icmpeq k69_374 (fun z374 => ?_) (fun z374 => ?_)
                        · refine r_pushn (v := nI 1) k69_386 rfl ?_
                          refine r_goto k69_387 ?_
                          have e9 : R_act J f op a = (((nI 1), (R_become J (nI (jn J 69 f)) a).2)) := by unfold R_act; rw [am_ite_f z10, am_ite_f z40, am_ite_f y51_0, am_ite_f y51_1, am_ite_f y51_2, am_ite_f y51_3, am_ite_f y51_4, am_ite_f y51_5, am_ite_f y51_6, am_ite_f y51_7, am_ite_t y51_8, am_ite_t z374]
                          exact r_zret k69_391 rfl (by decide) ⟨by rw [e9], by rw [e9], by rw [e9]; exact hT370⟩
                        · refine r_aload k69_377 rfl ?_
                          refine r_pushn (v := (-2)) k69_378 rfl ?_
                          refine j_call (ml := 2) k69_380 rfl (show 0 < d.1 by omega) (show 19 + 2 ≤ d.2 by omega) ⟨Nat.le_of_ble_eq_true rfl, Nat.le_of_ble_eq_true rfl, am_obB hB rfl, Nat.le_of_ble_eq_true rfl⟩ rfl (rest := []) rfl (s_R_stop hB hT370 ((-2))) (fun r h1 hq => ?_)
                          obtain ⟨rfl, rfl, hT380⟩ := hq
                          show am_wp _ _ _ [some (.ref 36), some (.int (nI (f))), some (.int (nI (op))), some (.int (a)), some (.int (nI (jn J 65 f))), some (.int (nI 1)), none, none, none] [.int ((R_stop ((R_become J (nI (jn J 69 f)) a).2) ((-2))).1)] _ _
                          rw [show (R_stop ((R_become J (nI (jn J 69 f)) a).2) ((-2))).1 = nI 0 from rfl]
                          refine r_ifeqN (by omega) k69_383 (fun _ => ?_) (fun z => absurd z (by decide))
                          refine r_pushn (v := nI 0) k69_390 rfl ?_
                          have e9 : R_act J f op a = (((nI 0), (R_stop ((R_become J (nI (jn J 69 f)) a).2) ((-2))).2)) := by unfold R_act; rw [am_ite_f z10, am_ite_f z40, am_ite_f y51_0, am_ite_f y51_1, am_ite_f y51_2, am_ite_f y51_3, am_ite_f y51_4, am_ite_f y51_5, am_ite_f y51_6, am_ite_f y51_7, am_ite_t y51_8, am_ite_f z374]
                          exact r_zret k69_391 rfl (by decide) ⟨by rw [e9], by rw [e9], by rw [e9]; exact hT380⟩
                      · refine am_tsd k69_51 (fun v h1 h2 => ?_) (fun v h1 h2 e1 => ?_) ?_
                        · rcases (show v = 0 ∨ v = 1 ∨ v = 2 ∨ v = 3 ∨ v = 4 ∨ v = 5 ∨ v = 6 ∨ v = 7 ∨ v = 8 by omega) with rfl | rfl | rfl | rfl | rfl | rfl | rfl | rfl | rfl
                          · exact Or.inl (fun q => y51_0 ((nI_eq (by omega) (by decide)).mp q))
                          · exact Or.inl (fun q => y51_1 ((nI_eq (by omega) (by decide)).mp q))
                          · exact Or.inl (fun q => y51_2 ((nI_eq (by omega) (by decide)).mp q))
                          · exact Or.inl (fun q => y51_3 ((nI_eq (by omega) (by decide)).mp q))
                          · exact Or.inl (fun q => y51_4 ((nI_eq (by omega) (by decide)).mp q))
                          · exact Or.inl (fun q => y51_5 ((nI_eq (by omega) (by decide)).mp q))
                          · exact Or.inl (fun q => y51_6 ((nI_eq (by omega) (by decide)).mp q))
                          · exact Or.inl (fun q => y51_7 ((nI_eq (by omega) (by decide)).mp q))
                          · exact Or.inl (fun q => y51_8 ((nI_eq (by omega) (by decide)).mp q))
                        · exact rfl
                        · refine r_aload k69_392 rfl ?_
                          refine j_ref (b := 49) k69_393 hB rfl ?_
                          refine r_aload k69_396 rfl ?_
                          refine j_ref (b := 63) k69_397 hB rfl ?_
                          refine r_aload k69_400 rfl ?_
                          have b401 := ty_f hT (q := 36) (j := 38) (B := 13) (by decide) (by decide)
                          refine j_get (j := 38) (v := (nI (jn J 36 38))) k69_401 hB rfl b401.1 ?_
                          refine r_pushn (v := nI 1) k69_404 rfl ?_
                          refine r_isubN (by omega) k69_405 ?_
                          have b406 := ty_n hT (q := 63) (B := 5) (by decide) (by decide) ((jn J 36 38) - 1)
                          refine j_ald (n := 13) (j := ((jn J 36 38) - 1)) (v := (nI (jn J 63 ((jn J 36 38) - 1)))) k69_406 hB rfl rfl (by omega) b406.1 ?_
                          have b407 := ty_n hT (q := 49) (B := 3) (by decide) (by decide) (jn J 63 ((jn J 36 38) - 1))
                          refine j_ald (n := 5) (j := (jn J 63 ((jn J 36 38) - 1))) (v := (nI (jn J 49 (jn J 63 ((jn J 36 38) - 1))))) k69_407 hB rfl rfl (by omega) b407.1 ?_
                          refine r_pushn (v := nI 2) k69_408 rfl ?_
                          refine r_icmpgeN (by omega) (by omega) k69_409 (fun z409 => ?_) (fun z409 => ?_)
                          · refine r_aload k69_414 rfl ?_
                            refine j_ref (b := 69) k69_415 hB rfl ?_
                            refine r_iload k69_418 rfl ?_
                            have b419 := ty_n hT (q := 69) (B := 12) (by decide) (by decide) f
                            refine j_ald (n := 320) (j := f) (v := (nI (jn J 69 f))) k69_419 hB rfl rfl (by omega) b419.1 ?_
                            refine r_istore (L' := [some (.ref 36), some (.int (nI (f))), some (.int (nI (op))), some (.int (a)), some (.int (nI (jn J 65 f))), some (.int (nI 1)), none, none, some (.int (nI (jn J 69 f)))]) k69_420 (Nat.le_of_ble_eq_true rfl) rfl ?_
                            refine r_aload k69_422 rfl ?_
                            refine j_ref (b := 69) k69_423 hB rfl ?_
                            refine r_iload k69_426 rfl ?_
                            refine r_aload k69_427 rfl ?_
                            refine j_ref (b := 70) k69_428 hB rfl ?_
                            refine r_iload k69_431 rfl ?_
                            have b432 := ty_n hT (q := 70) (B := 12) (by decide) (by decide) f
                            refine j_ald (n := 320) (j := f) (v := (nI (jn J 70 f))) k69_432 hB rfl rfl (by omega) b432.1 ?_
                            refine j_ast (n := 320) (j := f) k69_433 hB rfl rfl (by omega) ?_
                            have hT433 : am_ty2 (am_u2 J 69 f (nI (jn J 70 f))) := ty_w hT (tw_n (B := 12) (by decide) (by decide) (by decide) (by omega))
                            refine r_aload k69_434 rfl ?_
                            refine j_ref (b := 70) k69_435 hB rfl ?_
                            refine r_iload k69_438 rfl ?_
                            refine r_iload k69_439 rfl ?_
                            refine j_ast (n := 320) (j := f) k69_441 hB rfl rfl (by omega) ?_
                            have hT441 : am_ty2 (am_u2 (am_u2 J 69 f (nI (jn J 70 f))) 70 f (nI (jn J 69 f))) := ty_w hT433 (tw_n (B := 12) (by decide) (by decide) (by decide) (by omega))
                            refine r_pushn (v := nI 1) k69_442 rfl ?_
                            have e9 : R_act J f op a = (((nI 1), am_u2 (am_u2 J 69 f (nI (jn J 70 f))) 70 f (nI (jn J 69 f)))) := by unfold R_act; rw [am_ite_f z10, am_ite_f z40, am_ite_f y51_0, am_ite_f y51_1, am_ite_f y51_2, am_ite_f y51_3, am_ite_f y51_4, am_ite_f y51_5, am_ite_f y51_6, am_ite_f y51_7, am_ite_f y51_8, am_ite_t z409]
                            exact r_zret k69_443 rfl (by decide) ⟨by rw [e9], by rw [e9], by rw [e9]; exact hT441⟩
                          · refine r_pushn (v := nI 1) k69_412 rfl ?_
                            have e9 : R_act J f op a = (((nI 1), J)) := by unfold R_act; rw [am_ite_f z10, am_ite_f z40, am_ite_f y51_0, am_ite_f y51_1, am_ite_f y51_2, am_ite_f y51_3, am_ite_f y51_4, am_ite_f y51_5, am_ite_f y51_6, am_ite_f y51_7, am_ite_f y51_8, am_ite_f z409]
                            exact r_zret k69_413 rfl (by decide) ⟨by rw [e9], by rw [e9], by rw [e9]; exact hT⟩
  · refine r_aload k69_13 rfl ?_
    refine j_ref (b := 66) k69_14 hB rfl ?_
    refine r_iload k69_17 rfl ?_
    have b18 := ty_n hT (q := 66) (B := 17) (by decide) (by decide) f
    refine j_ald (n := 320) (j := f) (v := (nI (jn J 66 f))) k69_18 hB rfl rfl (by omega) b18.1 ?_
    refine r_pushn (v := nI 1) k69_19 rfl ?_
    refine r_iaddN k69_20 ?_
    refine r_aload k69_21 rfl ?_
    refine r_pushn (v := nI 0) k69_22 rfl ?_
    refine j_call (ml := 2) k69_23 rfl (show 0 < d.1 by omega) (show 19 + 2 ≤ d.2 by omega) ⟨Nat.le_of_ble_eq_true rfl, Nat.le_of_ble_eq_true rfl, am_obB hB rfl, Nat.le_of_ble_eq_true rfl⟩ rfl (rest := [.int (nI ((jn J 66 f) + 1))]) rfl (s_R_many hB hT 0 (by omega) (hl)) (fun r h1 hq => ?_)
    obtain ⟨rfl, rfl⟩ := hq
    show am_wp _ _ _ [some (.ref 36), some (.int (nI (f))), some (.int (nI (op))), some (.int (a)), some (.int (nI (jn J 65 f))), none, none, none, none] [.int (R_many J 0), .int (nI ((jn J 66 f) + 1))] _ _
    rw [show R_many J 0 = nI (jn J 60 ((4 * ((jn J 36 38) - 1)) + 0)) from rfl]
    have b23 := ty_n hT (q := 60) (B := 17) (by decide) (by decide) ((4 * ((jn J 36 38) - 1)) + 0)
    refine r_icmpltN (by omega) (by omega) k69_26 (fun z26 => ?_) (fun z26 => ?_)
    · refine r_pushn (v := nI 0) k69_33 rfl ?_
      refine r_goto k69_34 ?_
      refine r_istore (L' := [some (.ref 36), some (.int (nI (f))), some (.int (nI (op))), some (.int (a)), some (.int (nI (jn J 65 f))), some (.int (nI 0)), none, none, none]) k69_48 (Nat.le_of_ble_eq_true rfl) rfl ?_
      refine r_iload k69_50 rfl ?_
      by_cases y51_0 : op = 0
      · refine r_tsIn k69_51 (by rw [y51_0]; decide) (t := 100) (by rw [y51_0]; rfl) ?_
        refine r_aload k69_100 rfl ?_
        refine j_ref (b := 68) k69_101 hB rfl ?_
        refine r_iload k69_104 rfl ?_
        refine r_iload k69_105 rfl ?_
        refine j_ast (n := 320) (j := f) k69_106 hB rfl rfl (by omega) ?_
        have hT106 : am_ty2 (am_u2 J 68 f a) := ty_w hT (tw_a (by decide) (by decide) (by decide))
        refine r_pushn (v := nI 1) k69_107 rfl ?_
        have e9 : R_act J f op a = (((nI 1), am_u2 J 68 f a)) := by unfold R_act; rw [am_ite_t z10, am_ite_t z26, am_ite_t y51_0]
        exact r_zret k69_108 rfl (by decide) ⟨by rw [e9], by rw [e9], by rw [e9]; exact hT106⟩
      · by_cases y51_1 : op = 1
        · refine r_tsIn k69_51 (by rw [y51_1]; decide) (t := 109) (by rw [y51_1]; rfl) ?_
          refine r_aload k69_109 rfl ?_
          refine j_ref (b := 68) k69_110 hB rfl ?_
          refine r_iload k69_113 rfl ?_
          refine r_dup2 rfl rfl k69_114 ?_
          refine j_ald (n := 320) (j := f) (v := (J 68 f)) k69_115 hB rfl rfl (by omega) rfl ?_
          refine r_iload k69_116 rfl ?_
          refine r_iadd k69_117 ?_
          refine j_ast (n := 320) (j := f) k69_118 hB rfl rfl (by omega) ?_
          have hT118 : am_ty2 (am_u2 J 68 f ((J 68 f) + a)) := ty_w hT (tw_a (by decide) (by decide) (by decide))
          refine r_pushn (v := nI 1) k69_119 rfl ?_
          have e9 : R_act J f op a = (((nI 1), am_u2 J 68 f ((J 68 f) + a))) := by unfold R_act; rw [am_ite_t z10, am_ite_t z26, am_ite_f y51_0, am_ite_t y51_1]
          exact r_zret k69_120 rfl (by decide) ⟨by rw [e9], by rw [e9], by rw [e9]; exact hT118⟩
        · by_cases y51_2 : op = 2
          · refine r_tsIn k69_51 (by rw [y51_2]; decide) (t := 121) (by rw [y51_2]; rfl) ?_
            refine r_aload k69_121 rfl ?_
            refine r_aload k69_122 rfl ?_
            refine j_ref (b := 69) k69_123 hB rfl ?_
            refine r_iload k69_126 rfl ?_
            have b127 := ty_n hT (q := 69) (B := 12) (by decide) (by decide) f
            refine j_ald (n := 320) (j := f) (v := (nI (jn J 69 f))) k69_127 hB rfl rfl (by omega) b127.1 ?_
            refine r_iload k69_128 rfl ?_
            refine j_call (ml := 4) k69_129 rfl (show 0 < d.1 by omega) (show 19 + 4 ≤ d.2 by omega) ⟨Nat.le_of_ble_eq_true rfl, Nat.le_of_ble_eq_true rfl, am_obB hB rfl, Nat.le_of_ble_eq_true rfl⟩ rfl (rest := []) rfl (s_R_get hB hT (nI (jn J 69 f)) a (show 5 ≤ d.1 - 1 by omega) (show 117 ≤ d.2 - 23 by omega)) (fun r h1 hq => ?_)
            obtain ⟨rfl, rfl, hT129⟩ := hq
            show am_wp _ _ _ [some (.ref 36), some (.int (nI (f))), some (.int (nI (op))), some (.int (a)), some (.int (nI (jn J 65 f))), some (.int (nI 0)), none, none, none] [.long ((R_get J (nI (jn J 69 f)) a).1)] _ _
            refine r_lstore (L' := [some (.ref 36), some (.int (nI (f))), some (.int (nI (op))), some (.int (a)), some (.int (nI (jn J 65 f))), some (.int (nI 0)), some (.long ((R_get J (nI (jn J 69 f)) a).1)), none, none]) k69_132 (Nat.le_of_ble_eq_true rfl) rfl ?_
            refine r_lload k69_134 rfl ?_
            refine r_pushl k69_136 ?_
            refine r_lcmp k69_139 ?_
            refine r_ifle k69_140 (fun z140 => ?_) (fun z140 => ?_)
            · refine r_aload k69_145 rfl ?_
              refine j_ref (b := 68) k69_146 hB rfl ?_
              refine r_iload k69_149 rfl ?_
              refine r_dup2 rfl rfl k69_150 ?_
              refine j_ald (n := 320) (j := f) (v := (((R_get J (nI (jn J 69 f)) a).2) 68 f)) k69_151 hB rfl rfl (by omega) rfl ?_
              refine r_lload k69_152 rfl ?_
              refine r_l2i k69_154 ?_
              refine r_iadd k69_155 ?_
              refine j_ast (n := 320) (j := f) k69_156 hB rfl rfl (by omega) ?_
              have hT156 : am_ty2 (am_u2 ((R_get J (nI (jn J 69 f)) a).2) 68 f ((((R_get J (nI (jn J 69 f)) a).2) 68 f) + (((R_get J (nI (jn J 69 f)) a).1).toInt32))) := ty_w hT129 (tw_a (by decide) (by decide) (by decide))
              refine r_pushn (v := nI 1) k69_157 rfl ?_
              have e9 : R_act J f op a = (((nI 1), am_u2 ((R_get J (nI (jn J 69 f)) a).2) 68 f ((((R_get J (nI (jn J 69 f)) a).2) 68 f) + (((R_get J (nI (jn J 69 f)) a).1).toInt32)))) := by unfold R_act; rw [am_ite_t z10, am_ite_t z26, am_ite_f y51_0, am_ite_f y51_1, am_ite_t y51_2, am_ite_t z140]
              exact r_zret k69_158 rfl (by decide) ⟨by rw [e9], by rw [e9], by rw [e9]; exact hT156⟩
            · refine r_pushn (v := nI 0) k69_143 rfl ?_
              have e9 : R_act J f op a = (((nI 0), (R_get J (nI (jn J 69 f)) a).2)) := by unfold R_act; rw [am_ite_t z10, am_ite_t z26, am_ite_f y51_0, am_ite_f y51_1, am_ite_t y51_2, am_ite_f z140]
              exact r_zret k69_144 rfl (by decide) ⟨by rw [e9], by rw [e9], by rw [e9]; exact hT129⟩
          · by_cases y51_3 : op = 3
            · refine r_tsIn k69_51 (by rw [y51_3]; decide) (t := 159) (by rw [y51_3]; rfl) ?_
              refine r_aload k69_159 rfl ?_
              refine r_aload k69_160 rfl ?_
              refine j_ref (b := 69) k69_161 hB rfl ?_
              refine r_iload k69_164 rfl ?_
              have b165 := ty_n hT (q := 69) (B := 12) (by decide) (by decide) f
              refine j_ald (n := 320) (j := f) (v := (nI (jn J 69 f))) k69_165 hB rfl rfl (by omega) b165.1 ?_
              refine r_iload k69_166 rfl ?_
              refine r_aload k69_167 rfl ?_
              refine j_ref (b := 68) k69_168 hB rfl ?_
              refine r_iload k69_171 rfl ?_
              refine j_ald (n := 320) (j := f) (v := (J 68 f)) k69_172 hB rfl rfl (by omega) rfl ?_
              refine j_call (ml := 5) k69_173 rfl (show 0 < d.1 by omega) (show 19 + 5 ≤ d.2 by omega) ⟨Nat.le_of_ble_eq_true rfl, Nat.le_of_ble_eq_true rfl, am_obB hB rfl, Nat.le_of_ble_eq_true rfl⟩ rfl (rest := []) rfl (s_R_put hB hT (nI (jn J 69 f)) a (J 68 f) (show 5 ≤ d.1 - 1 by omega) (show 117 ≤ d.2 - 24 by omega)) (fun r h1 hq => ?_)
              obtain ⟨rfl, rfl, hT173⟩ := hq
              show am_wp _ _ _ [some (.ref 36), some (.int (nI (f))), some (.int (nI (op))), some (.int (a)), some (.int (nI (jn J 65 f))), some (.int (nI 0)), none, none, none] [.long ((R_put J (nI (jn J 69 f)) a (J 68 f)).1)] _ _
              refine r_pushl k69_176 ?_
              refine r_lcmp k69_177 ?_
              refine r_ifne k69_178 (fun z178 => ?_) (fun z178 => ?_)
              · refine r_pushn (v := nI 0) k69_185 rfl ?_
                have e9 : R_act J f op a = (((nI 0), (R_put J (nI (jn J 69 f)) a (J 68 f)).2)) := by unfold R_act; rw [am_ite_t z10, am_ite_t z26, am_ite_f y51_0, am_ite_f y51_1, am_ite_f y51_2, am_ite_t y51_3, am_ite_f z178]
                exact r_zret k69_186 rfl (by decide) ⟨by rw [e9], by rw [e9], by rw [e9]; exact hT173⟩
              · refine r_pushn (v := nI 1) k69_181 rfl ?_
                refine r_goto k69_182 ?_
                have e9 : R_act J f op a = (((nI 1), (R_put J (nI (jn J 69 f)) a (J 68 f)).2)) := by unfold R_act; rw [am_ite_t z10, am_ite_t z26, am_ite_f y51_0, am_ite_f y51_1, am_ite_f y51_2, am_ite_t y51_3, am_ite_t z178]
                exact r_zret k69_186 rfl (by decide) ⟨by rw [e9], by rw [e9], by rw [e9]; exact hT173⟩
            · by_cases y51_4 : op = 4
              · refine r_tsIn k69_51 (by rw [y51_4]; decide) (t := 187) (by rw [y51_4]; rfl) ?_
                refine r_iload k69_187 rfl ?_
                refine r_ifeqN (by omega) k69_189 (fun _ => ?_) (fun z => absurd z (by decide))
                refine r_aload k69_199 rfl ?_
                refine r_iload k69_200 rfl ?_
                refine r_aload k69_202 rfl ?_
                refine j_ref (b := 66) k69_203 hB rfl ?_
                refine r_iload k69_206 rfl ?_
                have b207 := ty_n hT (q := 66) (B := 17) (by decide) (by decide) f
                refine j_ald (n := 320) (j := f) (v := (nI (jn J 66 f))) k69_207 hB rfl rfl (by omega) b207.1 ?_
                refine r_pushn (v := nI 1) k69_208 rfl ?_
                refine r_iaddN k69_209 ?_
                refine j_call (ml := 4) k69_210 rfl (show 0 < d.1 by omega) (show 19 + 4 ≤ d.2 by omega) ⟨Nat.le_of_ble_eq_true rfl, Nat.le_of_ble_eq_true rfl, am_obB hB rfl, Nat.le_of_ble_eq_true rfl⟩ rfl (rest := []) rfl (s_R_begin hB hT (jn J 65 f) ((jn J 66 f) + 1) (by omega) (by omega) (hl) (ht) (show 1 ≤ d.1 - 1 by omega) (show 21 ≤ d.2 - 23 by omega)) (fun r h1 hq => ?_)
                obtain ⟨rfl, rfl, hT210⟩ := hq
                show am_wp _ _ _ [some (.ref 36), some (.int (nI (f))), some (.int (nI (op))), some (.int (a)), some (.int (nI (jn J 65 f))), some (.int (nI 0)), none, none, none] [] _ _
                refine r_pushn (v := nI 1) k69_213 rfl ?_
                have e9 : R_act J f op a = (((nI 1), R_begin J (jn J 65 f) ((jn J 66 f) + 1))) := by unfold R_act; rw [am_ite_t z10, am_ite_t z26, am_ite_f y51_0, am_ite_f y51_1, am_ite_f y51_2, am_ite_f y51_3, am_ite_t y51_4]
                exact r_zret k69_214 rfl (by decide) ⟨by rw [e9], by rw [e9], by rw [e9]; exact hT210⟩
              · by_cases y51_5 : op = 5
                · refine r_tsIn k69_51 (by rw [y51_5]; decide) (t := 215) (by rw [y51_5]; rfl) ?_
                  refine r_aload k69_215 rfl ?_
                  refine j_ref (b := 68) k69_216 hB rfl ?_
                  refine r_iload k69_219 rfl ?_
                  refine r_iload k69_220 rfl ?_
                  refine r_ifeqN (by omega) k69_222 (fun _ => ?_) (fun z => absurd z (by decide))
                  refine r_pushn (v := nI 1) k69_229 rfl ?_
                  refine j_ast (n := 320) (j := f) k69_230 hB rfl rfl (by omega) ?_
                  have hT230 : am_ty2 (am_u2 J 68 f (nI 1)) := ty_w hT (tw_a (by decide) (by decide) (by decide))
                  refine r_pushn (v := nI 1) k69_231 rfl ?_
                  have e9 : R_act J f op a = (((nI 1), am_u2 J 68 f (nI 1))) := by unfold R_act; rw [am_ite_t z10, am_ite_t z26, am_ite_f y51_0, am_ite_f y51_1, am_ite_f y51_2, am_ite_f y51_3, am_ite_f y51_4, am_ite_t y51_5]
                  exact r_zret k69_232 rfl (by decide) ⟨by rw [e9], by rw [e9], by rw [e9]; exact hT230⟩
                · by_cases y51_6 : op = 6
                  · refine r_tsIn k69_51 (by rw [y51_6]; decide) (t := 233) (by rw [y51_6]; rfl) ?_
                    refine r_pushn (v := nI 19) k69_233 rfl ?_
                    refine r_istore (L' := [some (.ref 36), some (.int (nI (f))), some (.int (nI (op))), some (.int (a)), some (.int (nI (jn J 65 f))), some (.int (nI 0)), none, none, some (.int (nI 19))]) k69_235 (Nat.le_of_ble_eq_true rfl) rfl ?_
                    refine wp_L (L := [some (.ref 36), some (.int (nI (f))), none, some (.int (a)), none, none, none, none, some (.int (nI 19))]) (⟨Or.inr rfl, Or.inr rfl, Or.inl rfl, Or.inr rfl, Or.inl rfl, Or.inl rfl, Or.inl rfl, Or.inl rfl, Or.inr rfl, True.intro⟩) (l_R_nt hB f a hd hw 19 J hT (by omega) (fun hT9R_nt => ?_))
                    have e9 : R_act J f op a = (R_n9 f a ((R_nt f a 19 J))) := by unfold R_act ; rw [am_ite_t z10, am_ite_t z26, am_ite_f y51_0, am_ite_f y51_1, am_ite_f y51_2, am_ite_f y51_3, am_ite_f y51_4, am_ite_f y51_5, am_ite_t y51_6]
                    exact (l_R_n9 hB f a hd hw hT9R_nt (fun hT9 => ⟨by rw [e9], by rw [e9], by rw [e9]; exact hT9⟩))
                  · by_cases y51_7 : op = 7
                    · refine r_tsIn k69_51 (by rw [y51_7]; decide) (t := 283) (by rw [y51_7]; rfl) ?_
                      have ca := ha y51_7
                      rw [show ([some (.ref 36), some (.int (nI (f))), some (.int (nI (op))), some (.int (a)), some (.int (nI (jn J 65 f))), some (.int (nI 0)), none, none, none] : am_L) = [some (.ref 36), some (.int (nI (f))), some (.int (nI (op))), some (.int (nI (jx a))), some (.int (nI (jn J 65 f))), some (.int (nI 0)), none, none, none] by rw [← ca.1]]
                      refine r_aload k69_283 rfl ?_
                      refine j_ref (b := 49) k69_284 hB rfl ?_
                      refine r_iload k69_287 rfl ?_
                      have b288 := ty_n hT (q := 49) (B := 3) (by decide) (by decide) (jx a)
                      refine j_ald (n := 5) (j := (jx a)) (v := (nI (jn J 49 (jx a)))) k69_288 hB rfl rfl (by omega) b288.1 ?_
                      refine r_ifneN (by omega) k69_289 (fun z289 => ?_) (fun z289 => ?_)
                      · refine r_aload k69_299 rfl ?_
                        have b300 := ty_f hT (q := 36) (j := 38) (B := 13) (by decide) (by decide)
                        refine j_get (j := 38) (v := (nI (jn J 36 38))) k69_300 hB rfl b300.1 ?_
                        refine r_pushn (v := nI 12) k69_303 rfl ?_
                        refine r_icmpneN (by omega) (by omega) k69_305 (fun z305 => ?_) (fun z305 => ?_)
                        · refine r_aload k69_315 rfl ?_
                          refine r_iload k69_316 rfl ?_
                          refine r_aload k69_317 rfl ?_
                          refine j_ref (b := 69) k69_318 hB rfl ?_
                          refine r_iload k69_321 rfl ?_
                          have b322 := ty_n hT (q := 69) (B := 12) (by decide) (by decide) f
                          refine j_ald (n := 320) (j := f) (v := (nI (jn J 69 f))) k69_322 hB rfl rfl (by omega) b322.1 ?_
                          refine r_aload k69_323 rfl ?_
                          refine j_ref (b := 49) k69_324 hB rfl ?_
                          refine r_aload k69_327 rfl ?_
                          refine j_ref (b := 63) k69_328 hB rfl ?_
                          refine r_aload k69_331 rfl ?_
                          have b332 := ty_f hT (q := 36) (j := 38) (B := 13) (by decide) (by decide)
                          refine j_get (j := 38) (v := (nI (jn J 36 38))) k69_332 hB rfl b332.1 ?_
                          refine r_pushn (v := nI 1) k69_335 rfl ?_
                          refine r_isubN (by omega) k69_336 ?_
                          have b337 := ty_n hT (q := 63) (B := 5) (by decide) (by decide) ((jn J 36 38) - 1)
                          refine j_ald (n := 13) (j := ((jn J 36 38) - 1)) (v := (nI (jn J 63 ((jn J 36 38) - 1)))) k69_337 hB rfl rfl (by omega) b337.1 ?_
                          have b338 := ty_n hT (q := 49) (B := 3) (by decide) (by decide) (jn J 63 ((jn J 36 38) - 1))
                          refine j_ald (n := 5) (j := (jn J 63 ((jn J 36 38) - 1))) (v := (nI (jn J 49 (jn J 63 ((jn J 36 38) - 1))))) k69_338 hB rfl rfl (by omega) b338.1 ?_
                          refine r_pushn (v := nI 2) k69_339 rfl ?_
                          refine r_icmpneN (by omega) (by omega) k69_340 (fun z340 => ?_) (fun z340 => ?_)
                          · refine r_aload k69_352 rfl ?_
                            refine j_ref (b := 69) k69_353 hB rfl ?_
                            refine r_iload k69_356 rfl ?_
                            have b357 := ty_n hT (q := 69) (B := 12) (by decide) (by decide) f
                            refine j_ald (n := 320) (j := f) (v := (nI (jn J 69 f))) k69_357 hB rfl rfl (by omega) b357.1 ?_
                            refine j_call (ml := 8) k69_358 rfl (show 0 < d.1 by omega) (show 19 + 8 ≤ d.2 by omega) ⟨Nat.le_of_ble_eq_true rfl, Nat.le_of_ble_eq_true rfl, am_obB hB rfl, Nat.le_of_ble_eq_true rfl⟩ rfl (rest := []) rfl (s_R_enter hB hT (jx a) (jn J 69 f) (jn J 69 f) (by omega) (by omega) (by omega) (by omega) (ht) (show 4 ≤ d.1 - 1 by omega) (show 96 ≤ d.2 - 27 by omega)) (fun r h1 hq => ?_)
                            obtain ⟨rfl, rfl, hT358⟩ := hq
                            show am_wp _ _ _ [some (.ref 36), some (.int (nI (f))), some (.int (nI (op))), some (.int (nI (jx a))), some (.int (nI (jn J 65 f))), some (.int (nI 0)), none, none, none] [.int ((R_enter J (jx a) (jn J 69 f) (jn J 69 f)).1)] _ _
                            have e9 : R_act J f op a = ((((R_enter J (jx a) (jn J 69 f) (jn J 69 f)).1), (R_enter J (jx a) (jn J 69 f) (jn J 69 f)).2)) := by unfold R_act; rw [am_ite_t z10, am_ite_t z26, am_ite_f y51_0, am_ite_f y51_1, am_ite_f y51_2, am_ite_f y51_3, am_ite_f y51_4, am_ite_f y51_5, am_ite_f y51_6, am_ite_t y51_7, am_ite_f z289, am_ite_f z305, am_ite_f z340]
                            exact r_zret k69_361 rfl (zb_R_enter) ⟨by rw [e9], by rw [e9], by rw [e9]; exact hT358⟩
                          · refine r_aload k69_343 rfl ?_
                            refine j_ref (b := 70) k69_344 hB rfl ?_
                            refine r_iload k69_347 rfl ?_
                            have b348 := ty_n hT (q := 70) (B := 12) (by decide) (by decide) f
                            refine j_ald (n := 320) (j := f) (v := (nI (jn J 70 f))) k69_348 hB rfl rfl (by omega) b348.1 ?_
                            refine r_goto k69_349 ?_
                            refine j_call (ml := 8) k69_358 rfl (show 0 < d.1 by omega) (show 19 + 8 ≤ d.2 by omega) ⟨Nat.le_of_ble_eq_true rfl, Nat.le_of_ble_eq_true rfl, am_obB hB rfl, Nat.le_of_ble_eq_true rfl⟩ rfl (rest := []) rfl (s_R_enter hB hT (jx a) (jn J 69 f) (jn J 70 f) (by omega) (by omega) (by omega) (by omega) (ht) (show 4 ≤ d.1 - 1 by omega) (show 96 ≤ d.2 - 27 by omega)) (fun r h1 hq => ?_)
                            obtain ⟨rfl, rfl, hT358⟩ := hq
                            show am_wp _ _ _ [some (.ref 36), some (.int (nI (f))), some (.int (nI (op))), some (.int (nI (jx a))), some (.int (nI (jn J 65 f))), some (.int (nI 0)), none, none, none] [.int ((R_enter J (jx a) (jn J 69 f) (jn J 70 f)).1)] _ _
                            have e9 : R_act J f op a = ((((R_enter J (jx a) (jn J 69 f) (jn J 70 f)).1), (R_enter J (jx a) (jn J 69 f) (jn J 70 f)).2)) := by unfold R_act; rw [am_ite_t z10, am_ite_t z26, am_ite_f y51_0, am_ite_f y51_1, am_ite_f y51_2, am_ite_f y51_3, am_ite_f y51_4, am_ite_f y51_5, am_ite_f y51_6, am_ite_t y51_7, am_ite_f z289, am_ite_f z305, am_ite_t z340]
                            exact r_zret k69_361 rfl (zb_R_enter) ⟨by rw [e9], by rw [e9], by rw [e9]; exact hT358⟩
                        · refine r_aload k69_308 rfl ?_
                          refine r_pushn (v := (-11)) k69_309 rfl ?_
                          refine j_call (ml := 2) k69_311 rfl (show 0 < d.1 by omega) (show 19 + 2 ≤ d.2 by omega) ⟨Nat.le_of_ble_eq_true rfl, Nat.le_of_ble_eq_true rfl, am_obB hB rfl, Nat.le_of_ble_eq_true rfl⟩ rfl (rest := []) rfl (s_R_stop hB hT ((-11))) (fun r h1 hq => ?_)
                          obtain ⟨rfl, rfl, hT311⟩ := hq
                          show am_wp _ _ _ [some (.ref 36), some (.int (nI (f))), some (.int (nI (op))), some (.int (nI (jx a))), some (.int (nI (jn J 65 f))), some (.int (nI 0)), none, none, none] [.int ((R_stop J ((-11))).1)] _ _
                          rw [show (R_stop J ((-11))).1 = nI 0 from rfl]
                          have e9 : R_act J f op a = (((nI 0), (R_stop J ((-11))).2)) := by unfold R_act; rw [am_ite_t z10, am_ite_t z26, am_ite_f y51_0, am_ite_f y51_1, am_ite_f y51_2, am_ite_f y51_3, am_ite_f y51_4, am_ite_f y51_5, am_ite_f y51_6, am_ite_t y51_7, am_ite_f z289, am_ite_t z305]
                          exact r_zret k69_314 rfl (by decide) ⟨by rw [e9], by rw [e9], by rw [e9]; exact hT311⟩
                      · refine r_aload k69_292 rfl ?_
                        refine r_pushn (v := (-2)) k69_293 rfl ?_
                        refine j_call (ml := 2) k69_295 rfl (show 0 < d.1 by omega) (show 19 + 2 ≤ d.2 by omega) ⟨Nat.le_of_ble_eq_true rfl, Nat.le_of_ble_eq_true rfl, am_obB hB rfl, Nat.le_of_ble_eq_true rfl⟩ rfl (rest := []) rfl (s_R_stop hB hT ((-2))) (fun r h1 hq => ?_)
                        obtain ⟨rfl, rfl, hT295⟩ := hq
                        show am_wp _ _ _ [some (.ref 36), some (.int (nI (f))), some (.int (nI (op))), some (.int (nI (jx a))), some (.int (nI (jn J 65 f))), some (.int (nI 0)), none, none, none] [.int ((R_stop J ((-2))).1)] _ _
                        rw [show (R_stop J ((-2))).1 = nI 0 from rfl]
                        have e9 : R_act J f op a = (((nI 0), (R_stop J ((-2))).2)) := by unfold R_act; rw [am_ite_t z10, am_ite_t z26, am_ite_f y51_0, am_ite_f y51_1, am_ite_f y51_2, am_ite_f y51_3, am_ite_f y51_4, am_ite_f y51_5, am_ite_f y51_6, am_ite_t y51_7, am_ite_t z289]
                        exact r_zret k69_298 rfl (by decide) ⟨by rw [e9], by rw [e9], by rw [e9]; exact hT295⟩
                    · by_cases y51_8 : op = 8
                      · refine r_tsIn k69_51 (by rw [y51_8]; decide) (t := 362) (by rw [y51_8]; rfl) ?_
                        refine r_aload k69_362 rfl ?_
                        refine r_aload k69_363 rfl ?_
                        refine j_ref (b := 69) k69_364 hB rfl ?_
                        refine r_iload k69_367 rfl ?_
                        have b368 := ty_n hT (q := 69) (B := 12) (by decide) (by decide) f
                        refine j_ald (n := 320) (j := f) (v := (nI (jn J 69 f))) k69_368 hB rfl rfl (by omega) b368.1 ?_
                        refine r_iload k69_369 rfl ?_
                        refine j_call (ml := 3) k69_370 rfl (show 0 < d.1 by omega) (show 19 + 3 ≤ d.2 by omega) ⟨Nat.le_of_ble_eq_true rfl, Nat.le_of_ble_eq_true rfl, am_obB hB rfl, Nat.le_of_ble_eq_true rfl⟩ rfl (rest := []) rfl (s_R_become hB hT (nI (jn J 69 f)) a (show 4 ≤ d.1 - 1 by omega) (show 94 ≤ d.2 - 22 by omega)) (fun r h1 hq => ?_)
                        obtain ⟨rfl, rfl, hT370⟩ := hq
                        show am_wp _ _ _ [some (.ref 36), some (.int (nI (f))), some (.int (nI (op))), some (.int (a)), some (.int (nI (jn J 65 f))), some (.int (nI 0)), none, none, none] [.int ((R_become J (nI (jn J 69 f)) a).1)] _ _
                        refine r_pushn (v := nI 1) k69_373 rfl ?_
                        refine r_icmpeq k69_374 (fun z374 => ?_) (fun z374 => ?_)
                        · refine r_pushn (v := nI 1) k69_386 rfl ?_
                          refine r_goto k69_387 ?_
                          have e9 : R_act J f op a = (((nI 1), (R_become J (nI (jn J 69 f)) a).2)) := by unfold R_act; rw [am_ite_t z10, am_ite_t z26, am_ite_f y51_0, am_ite_f y51_1, am_ite_f y51_2, am_ite_f y51_3, am_ite_f y51_4, am_ite_f y51_5, am_ite_f y51_6, am_ite_f y51_7, am_ite_t y51_8, am_ite_t z374]
                          exact r_zret k69_391 rfl (by decide) ⟨by rw [e9], by rw [e9], by rw [e9]; exact hT370⟩
                        · refine r_aload k69_377 rfl ?_
                          refine r_pushn (v := (-2)) k69_378 rfl ?_
                          refine j_call (ml := 2) k69_380 rfl (show 0 < d.1 by omega) (show 19 + 2 ≤ d.2 by omega) ⟨Nat.le_of_ble_eq_true rfl, Nat.le_of_ble_eq_true rfl, am_obB hB rfl, Nat.le_of_ble_eq_true rfl⟩ rfl (rest := []) rfl (s_R_stop hB hT370 ((-2))) (fun r h1 hq => ?_)
                          obtain ⟨rfl, rfl, hT380⟩ := hq
                          show am_wp _ _ _ [some (.ref 36), some (.int (nI (f))), some (.int (nI (op))), some (.int (a)), some (.int (nI (jn J 65 f))), some (.int (nI 0)), none, none, none] [.int ((R_stop ((R_become J (nI (jn J 69 f)) a).2) ((-2))).1)] _ _
                          rw [show (R_stop ((R_become J (nI (jn J 69 f)) a).2) ((-2))).1 = nI 0 from rfl]
                          refine r_ifeqN (by omega) k69_383 (fun _ => ?_) (fun z => absurd z (by decide))
                          refine r_pushn (v := nI 0) k69_390 rfl ?_
                          have e9 : R_act J f op a = (((nI 0), (R_stop ((R_become J (nI (jn J 69 f)) a).2) ((-2))).2)) := by unfold R_act; rw [am_ite_t z10, am_ite_t z26, am_ite_f y51_0, am_ite_f y51_1, am_ite_f y51_2, am_ite_f y51_3, am_ite_f y51_4, am_ite_f y51_5, am_ite_f y51_6, am_ite_f y51_7, am_ite_t y51_8, am_ite_f z374]
                          exact r_zret k69_391 rfl (by decide) ⟨by rw [e9], by rw [e9], by rw [e9]; exact hT380⟩
                      · refine am_tsd k69_51 (fun v h1 h2 => ?_) (fun v h1 h2 e1 => ?_) ?_
                        · rcases (show v = 0 ∨ v = 1 ∨ v = 2 ∨ v = 3 ∨ v = 4 ∨ v = 5 ∨ v = 6 ∨ v = 7 ∨ v = 8 by omega) with rfl | rfl | rfl | rfl | rfl | rfl | rfl | rfl | rfl
                          · exact Or.inl (fun q => y51_0 ((nI_eq (by omega) (by decide)).mp q))
                          · exact Or.inl (fun q => y51_1 ((nI_eq (by omega) (by decide)).mp q))
                          · exact Or.inl (fun q => y51_2 ((nI_eq (by omega) (by decide)).mp q))
                          · exact Or.inl (fun q => y51_3 ((nI_eq (by omega) (by decide)).mp q))
                          · exact Or.inl (fun q => y51_4 ((nI_eq (by omega) (by decide)).mp q))
                          · exact Or.inl (fun q => y51_5 ((nI_eq (by omega) (by decide)).mp q))
                          · exact Or.inl (fun q => y51_6 ((nI_eq (by omega) (by decide)).mp q))
                          · exact Or.inl (fun q => y51_7 ((nI_eq (by omega) (by decide)).mp q))
                          · exact Or.inl (fun q => y51_8 ((nI_eq (by omega) (by decide)).mp q))
                        · exact rfl
                        · refine r_aload k69_392 rfl ?_
                          refine j_ref (b := 49) k69_393 hB rfl ?_
                          refine r_aload k69_396 rfl ?_
                          refine j_ref (b := 63) k69_397 hB rfl ?_
                          refine r_aload k69_400 rfl ?_
                          have b401 := ty_f hT (q := 36) (j := 38) (B := 13) (by decide) (by decide)
                          refine j_get (j := 38) (v := (nI (jn J 36 38))) k69_401 hB rfl b401.1 ?_
                          refine r_pushn (v := nI 1) k69_404 rfl ?_
                          refine r_isubN (by omega) k69_405 ?_
                          have b406 := ty_n hT (q := 63) (B := 5) (by decide) (by decide) ((jn J 36 38) - 1)
                          refine j_ald (n := 13) (j := ((jn J 36 38) - 1)) (v := (nI (jn J 63 ((jn J 36 38) - 1)))) k69_406 hB rfl rfl (by omega) b406.1 ?_
                          have b407 := ty_n hT (q := 49) (B := 3) (by decide) (by decide) (jn J 63 ((jn J 36 38) - 1))
                          refine j_ald (n := 5) (j := (jn J 63 ((jn J 36 38) - 1))) (v := (nI (jn J 49 (jn J 63 ((jn J 36 38) - 1))))) k69_407 hB rfl rfl (by omega) b407.1 ?_
                          refine r_pushn (v := nI 2) k69_408 rfl ?_
                          refine r_icmpgeN (by omega) (by omega) k69_409 (fun z409 => ?_) (fun z409 => ?_)
                          · refine r_aload k69_414 rfl ?_
                            refine j_ref (b := 69) k69_415 hB rfl ?_
                            refine r_iload k69_418 rfl ?_
                            have b419 := ty_n hT (q := 69) (B := 12) (by decide) (by decide) f
                            refine j_ald (n := 320) (j := f) (v := (nI (jn J 69 f))) k69_419 hB rfl rfl (by omega) b419.1 ?_
                            refine r_istore (L' := [some (.ref 36), some (.int (nI (f))), some (.int (nI (op))), some (.int (a)), some (.int (nI (jn J 65 f))), some (.int (nI 0)), none, none, some (.int (nI (jn J 69 f)))]) k69_420 (Nat.le_of_ble_eq_true rfl) rfl ?_
                            refine r_aload k69_422 rfl ?_
                            refine j_ref (b := 69) k69_423 hB rfl ?_
                            refine r_iload k69_426 rfl ?_
                            refine r_aload k69_427 rfl ?_
                            refine j_ref (b := 70) k69_428 hB rfl ?_
                            refine r_iload k69_431 rfl ?_
                            have b432 := ty_n hT (q := 70) (B := 12) (by decide) (by decide) f
                            refine j_ald (n := 320) (j := f) (v := (nI (jn J 70 f))) k69_432 hB rfl rfl (by omega) b432.1 ?_
                            refine j_ast (n := 320) (j := f) k69_433 hB rfl rfl (by omega) ?_
                            have hT433 : am_ty2 (am_u2 J 69 f (nI (jn J 70 f))) := ty_w hT (tw_n (B := 12) (by decide) (by decide) (by decide) (by omega))
                            refine r_aload k69_434 rfl ?_
                            refine j_ref (b := 70) k69_435 hB rfl ?_
                            refine r_iload k69_438 rfl ?_
                            refine r_iload k69_439 rfl ?_
                            refine j_ast (n := 320) (j := f) k69_441 hB rfl rfl (by omega) ?_
                            have hT441 : am_ty2 (am_u2 (am_u2 J 69 f (nI (jn J 70 f))) 70 f (nI (jn J 69 f))) := ty_w hT433 (tw_n (B := 12) (by decide) (by decide) (by decide) (by omega))
                            refine r_pushn (v := nI 1) k69_442 rfl ?_
                            have e9 : R_act J f op a = (((nI 1), am_u2 (am_u2 J 69 f (nI (jn J 70 f))) 70 f (nI (jn J 69 f)))) := by unfold R_act; rw [am_ite_t z10, am_ite_t z26, am_ite_f y51_0, am_ite_f y51_1, am_ite_f y51_2, am_ite_f y51_3, am_ite_f y51_4, am_ite_f y51_5, am_ite_f y51_6, am_ite_f y51_7, am_ite_f y51_8, am_ite_t z409]
                            exact r_zret k69_443 rfl (by decide) ⟨by rw [e9], by rw [e9], by rw [e9]; exact hT441⟩
                          · refine r_pushn (v := nI 1) k69_412 rfl ?_
                            have e9 : R_act J f op a = (((nI 1), J)) := by unfold R_act; rw [am_ite_t z10, am_ite_t z26, am_ite_f y51_0, am_ite_f y51_1, am_ite_f y51_2, am_ite_f y51_3, am_ite_f y51_4, am_ite_f y51_5, am_ite_f y51_6, am_ite_f y51_7, am_ite_f y51_8, am_ite_f z409]
                            exact r_zret k69_413 rfl (by decide) ⟨by rw [e9], by rw [e9], by rw [e9]; exact hT⟩
    · refine r_pushn (v := nI 1) k69_29 rfl ?_
      refine r_goto k69_30 ?_
      refine r_istore (L' := [some (.ref 36), some (.int (nI (f))), some (.int (nI (op))), some (.int (a)), some (.int (nI (jn J 65 f))), some (.int (nI 1)), none, none, none]) k69_48 (Nat.le_of_ble_eq_true rfl) rfl ?_
      refine r_iload k69_50 rfl ?_
      by_cases y51_0 : op = 0
      · refine r_tsIn k69_51 (by rw [y51_0]; decide) (t := 100) (by rw [y51_0]; rfl) ?_
        refine r_aload k69_100 rfl ?_
        refine j_ref (b := 68) k69_101 hB rfl ?_
        refine r_iload k69_104 rfl ?_
        refine r_iload k69_105 rfl ?_
        refine j_ast (n := 320) (j := f) k69_106 hB rfl rfl (by omega) ?_
        have hT106 : am_ty2 (am_u2 J 68 f a) := ty_w hT (tw_a (by decide) (by decide) (by decide))
        refine r_pushn (v := nI 1) k69_107 rfl ?_
        have e9 : R_act J f op a = (((nI 1), am_u2 J 68 f a)) := by unfold R_act; rw [am_ite_t z10, am_ite_f z26, am_ite_t y51_0]
        exact r_zret k69_108 rfl (by decide) ⟨by rw [e9], by rw [e9], by rw [e9]; exact hT106⟩
      · by_cases y51_1 : op = 1
        · refine r_tsIn k69_51 (by rw [y51_1]; decide) (t := 109) (by rw [y51_1]; rfl) ?_
          refine r_aload k69_109 rfl ?_
          refine j_ref (b := 68) k69_110 hB rfl ?_
          refine r_iload k69_113 rfl ?_
          refine r_dup2 rfl rfl k69_114 ?_
          refine j_ald (n := 320) (j := f) (v := (J 68 f)) k69_115 hB rfl rfl (by omega) rfl ?_
          refine r_iload k69_116 rfl ?_
          refine r_iadd k69_117 ?_
          refine j_ast (n := 320) (j := f) k69_118 hB rfl rfl (by omega) ?_
          have hT118 : am_ty2 (am_u2 J 68 f ((J 68 f) + a)) := ty_w hT (tw_a (by decide) (by decide) (by decide))
          refine r_pushn (v := nI 1) k69_119 rfl ?_
          have e9 : R_act J f op a = (((nI 1), am_u2 J 68 f ((J 68 f) + a))) := by unfold R_act; rw [am_ite_t z10, am_ite_f z26, am_ite_f y51_0, am_ite_t y51_1]
          exact r_zret k69_120 rfl (by decide) ⟨by rw [e9], by rw [e9], by rw [e9]; exact hT118⟩
        · by_cases y51_2 : op = 2
          · refine r_tsIn k69_51 (by rw [y51_2]; decide) (t := 121) (by rw [y51_2]; rfl) ?_
            refine r_aload k69_121 rfl ?_
            refine r_aload k69_122 rfl ?_
            refine j_ref (b := 69) k69_123 hB rfl ?_
            refine r_iload k69_126 rfl ?_
            have b127 := ty_n hT (q := 69) (B := 12) (by decide) (by decide) f
            refine j_ald (n := 320) (j := f) (v := (nI (jn J 69 f))) k69_127 hB rfl rfl (by omega) b127.1 ?_
            refine r_iload k69_128 rfl ?_
            refine j_call (ml := 4) k69_129 rfl (show 0 < d.1 by omega) (show 19 + 4 ≤ d.2 by omega) ⟨Nat.le_of_ble_eq_true rfl, Nat.le_of_ble_eq_true rfl, am_obB hB rfl, Nat.le_of_ble_eq_true rfl⟩ rfl (rest := []) rfl (s_R_get hB hT (nI (jn J 69 f)) a (show 5 ≤ d.1 - 1 by omega) (show 117 ≤ d.2 - 23 by omega)) (fun r h1 hq => ?_)
            obtain ⟨rfl, rfl, hT129⟩ := hq
            show am_wp _ _ _ [some (.ref 36), some (.int (nI (f))), some (.int (nI (op))), some (.int (a)), some (.int (nI (jn J 65 f))), some (.int (nI 1)), none, none, none] [.long ((R_get J (nI (jn J 69 f)) a).1)] _ _
            refine r_lstore (L' := [some (.ref 36), some (.int (nI (f))), some (.int (nI (op))), some (.int (a)), some (.int (nI (jn J 65 f))), some (.int (nI 1)), some (.long ((R_get J (nI (jn J 69 f)) a).1)), none, none]) k69_132 (Nat.le_of_ble_eq_true rfl) rfl ?_
            refine r_lload k69_134 rfl ?_
            refine r_pushl k69_136 ?_
            refine r_lcmp k69_139 ?_
            refine r_ifle k69_140 (fun z140 => ?_) (fun z140 => ?_)
            · refine r_aload k69_145 rfl ?_
              refine j_ref (b := 68) k69_146 hB rfl ?_
              refine r_iload k69_149 rfl ?_
              refine r_dup2 rfl rfl k69_150 ?_
              refine j_ald (n := 320) (j := f) (v := (((R_get J (nI (jn J 69 f)) a).2) 68 f)) k69_151 hB rfl rfl (by omega) rfl ?_
              refine r_lload k69_152 rfl ?_
              refine r_l2i k69_154 ?_
              refine r_iadd k69_155 ?_
              refine j_ast (n := 320) (j := f) k69_156 hB rfl rfl (by omega) ?_
              have hT156 : am_ty2 (am_u2 ((R_get J (nI (jn J 69 f)) a).2) 68 f ((((R_get J (nI (jn J 69 f)) a).2) 68 f) + (((R_get J (nI (jn J 69 f)) a).1).toInt32))) := ty_w hT129 (tw_a (by decide) (by decide) (by decide))
              refine r_pushn (v := nI 1) k69_157 rfl ?_
              have e9 : R_act J f op a = (((nI 1), am_u2 ((R_get J (nI (jn J 69 f)) a).2) 68 f ((((R_get J (nI (jn J 69 f)) a).2) 68 f) + (((R_get J (nI (jn J 69 f)) a).1).toInt32)))) := by unfold R_act; rw [am_ite_t z10, am_ite_f z26, am_ite_f y51_0, am_ite_f y51_1, am_ite_t y51_2, am_ite_t z140]
              exact r_zret k69_158 rfl (by decide) ⟨by rw [e9], by rw [e9], by rw [e9]; exact hT156⟩
            · refine r_pushn (v := nI 0) k69_143 rfl ?_
              have e9 : R_act J f op a = (((nI 0), (R_get J (nI (jn J 69 f)) a).2)) := by unfold R_act; rw [am_ite_t z10, am_ite_f z26, am_ite_f y51_0, am_ite_f y51_1, am_ite_t y51_2, am_ite_f z140]
              exact r_zret k69_144 rfl (by decide) ⟨by rw [e9], by rw [e9], by rw [e9]; exact hT129⟩
          · by_cases y51_3 : op = 3
            · refine r_tsIn k69_51 (by rw [y51_3]; decide) (t := 159) (by rw [y51_3]; rfl) ?_
              refine r_aload k69_159 rfl ?_
              refine r_aload k69_160 rfl ?_
              refine j_ref (b := 69) k69_161 hB rfl ?_
              refine r_iload k69_164 rfl ?_
              have b165 := ty_n hT (q := 69) (B := 12) (by decide) (by decide) f
              refine j_ald (n := 320) (j := f) (v := (nI (jn J 69 f))) k69_165 hB rfl rfl (by omega) b165.1 ?_
              refine r_iload k69_166 rfl ?_
              refine r_aload k69_167 rfl ?_
              refine j_ref (b := 68) k69_168 hB rfl ?_
              refine r_iload k69_171 rfl ?_
              refine j_ald (n := 320) (j := f) (v := (J 68 f)) k69_172 hB rfl rfl (by omega) rfl ?_
              refine j_call (ml := 5) k69_173 rfl (show 0 < d.1 by omega) (show 19 + 5 ≤ d.2 by omega) ⟨Nat.le_of_ble_eq_true rfl, Nat.le_of_ble_eq_true rfl, am_obB hB rfl, Nat.le_of_ble_eq_true rfl⟩ rfl (rest := []) rfl (s_R_put hB hT (nI (jn J 69 f)) a (J 68 f) (show 5 ≤ d.1 - 1 by omega) (show 117 ≤ d.2 - 24 by omega)) (fun r h1 hq => ?_)
              obtain ⟨rfl, rfl, hT173⟩ := hq
              show am_wp _ _ _ [some (.ref 36), some (.int (nI (f))), some (.int (nI (op))), some (.int (a)), some (.int (nI (jn J 65 f))), some (.int (nI 1)), none, none, none] [.long ((R_put J (nI (jn J 69 f)) a (J 68 f)).1)] _ _
              refine r_pushl k69_176 ?_
              refine r_lcmp k69_177 ?_
              refine r_ifne k69_178 (fun z178 => ?_) (fun z178 => ?_)
              · refine r_pushn (v := nI 0) k69_185 rfl ?_
                have e9 : R_act J f op a = (((nI 0), (R_put J (nI (jn J 69 f)) a (J 68 f)).2)) := by unfold R_act; rw [am_ite_t z10, am_ite_f z26, am_ite_f y51_0, am_ite_f y51_1, am_ite_f y51_2, am_ite_t y51_3, am_ite_f z178]
                exact r_zret k69_186 rfl (by decide) ⟨by rw [e9], by rw [e9], by rw [e9]; exact hT173⟩
              · refine r_pushn (v := nI 1) k69_181 rfl ?_
                refine r_goto k69_182 ?_
                have e9 : R_act J f op a = (((nI 1), (R_put J (nI (jn J 69 f)) a (J 68 f)).2)) := by unfold R_act; rw [am_ite_t z10, am_ite_f z26, am_ite_f y51_0, am_ite_f y51_1, am_ite_f y51_2, am_ite_t y51_3, am_ite_t z178]
                exact r_zret k69_186 rfl (by decide) ⟨by rw [e9], by rw [e9], by rw [e9]; exact hT173⟩
            · by_cases y51_4 : op = 4
              · refine r_tsIn k69_51 (by rw [y51_4]; decide) (t := 187) (by rw [y51_4]; rfl) ?_
                refine r_iload k69_187 rfl ?_
                refine r_ifeqN (by omega) k69_189 (fun z => absurd z (by decide)) (fun _ => ?_)
                refine r_aload k69_192 rfl ?_
                refine r_pushn (v := (-10)) k69_193 rfl ?_
                refine j_call (ml := 2) k69_195 rfl (show 0 < d.1 by omega) (show 19 + 2 ≤ d.2 by omega) ⟨Nat.le_of_ble_eq_true rfl, Nat.le_of_ble_eq_true rfl, am_obB hB rfl, Nat.le_of_ble_eq_true rfl⟩ rfl (rest := []) rfl (s_R_stop hB hT ((-10))) (fun r h1 hq => ?_)
                obtain ⟨rfl, rfl, hT195⟩ := hq
                show am_wp _ _ _ [some (.ref 36), some (.int (nI (f))), some (.int (nI (op))), some (.int (a)), some (.int (nI (jn J 65 f))), some (.int (nI 1)), none, none, none] [.int ((R_stop J ((-10))).1)] _ _
                rw [show (R_stop J ((-10))).1 = nI 0 from rfl]
                have e9 : R_act J f op a = (((nI 0), (R_stop J ((-10))).2)) := by unfold R_act; rw [am_ite_t z10, am_ite_f z26, am_ite_f y51_0, am_ite_f y51_1, am_ite_f y51_2, am_ite_f y51_3, am_ite_t y51_4]
                exact r_zret k69_198 rfl (by decide) ⟨by rw [e9], by rw [e9], by rw [e9]; exact hT195⟩
              · by_cases y51_5 : op = 5
                · refine r_tsIn k69_51 (by rw [y51_5]; decide) (t := 215) (by rw [y51_5]; rfl) ?_
                  refine r_aload k69_215 rfl ?_
                  refine j_ref (b := 68) k69_216 hB rfl ?_
                  refine r_iload k69_219 rfl ?_
                  refine r_iload k69_220 rfl ?_
                  refine r_ifeqN (by omega) k69_222 (fun z => absurd z (by decide)) (fun _ => ?_)
                  refine r_pushn (v := nI 0) k69_225 rfl ?_
                  refine r_goto k69_226 ?_
                  refine j_ast (n := 320) (j := f) k69_230 hB rfl rfl (by omega) ?_
                  have hT230 : am_ty2 (am_u2 J 68 f (nI 0)) := ty_w hT (tw_a (by decide) (by decide) (by decide))
                  refine r_pushn (v := nI 1) k69_231 rfl ?_
                  have e9 : R_act J f op a = (((nI 1), am_u2 J 68 f (nI 0))) := by unfold R_act; rw [am_ite_t z10, am_ite_f z26, am_ite_f y51_0, am_ite_f y51_1, am_ite_f y51_2, am_ite_f y51_3, am_ite_f y51_4, am_ite_t y51_5]
                  exact r_zret k69_232 rfl (by decide) ⟨by rw [e9], by rw [e9], by rw [e9]; exact hT230⟩
                · by_cases y51_6 : op = 6
                  · refine r_tsIn k69_51 (by rw [y51_6]; decide) (t := 233) (by rw [y51_6]; rfl) ?_
                    refine r_pushn (v := nI 19) k69_233 rfl ?_
                    refine r_istore (L' := [some (.ref 36), some (.int (nI (f))), some (.int (nI (op))), some (.int (a)), some (.int (nI (jn J 65 f))), some (.int (nI 1)), none, none, some (.int (nI 19))]) k69_235 (Nat.le_of_ble_eq_true rfl) rfl ?_
                    refine wp_L (L := [some (.ref 36), some (.int (nI (f))), none, some (.int (a)), none, none, none, none, some (.int (nI 19))]) (⟨Or.inr rfl, Or.inr rfl, Or.inl rfl, Or.inr rfl, Or.inl rfl, Or.inl rfl, Or.inl rfl, Or.inl rfl, Or.inr rfl, True.intro⟩) (l_R_nt hB f a hd hw 19 J hT (by omega) (fun hT9R_nt => ?_))
                    have e9 : R_act J f op a = (R_n9 f a ((R_nt f a 19 J))) := by unfold R_act ; rw [am_ite_t z10, am_ite_f z26, am_ite_f y51_0, am_ite_f y51_1, am_ite_f y51_2, am_ite_f y51_3, am_ite_f y51_4, am_ite_f y51_5, am_ite_t y51_6]
                    exact (l_R_n9 hB f a hd hw hT9R_nt (fun hT9 => ⟨by rw [e9], by rw [e9], by rw [e9]; exact hT9⟩))
                  · by_cases y51_7 : op = 7
                    · refine r_tsIn k69_51 (by rw [y51_7]; decide) (t := 283) (by rw [y51_7]; rfl) ?_
                      have ca := ha y51_7
                      rw [show ([some (.ref 36), some (.int (nI (f))), some (.int (nI (op))), some (.int (a)), some (.int (nI (jn J 65 f))), some (.int (nI 1)), none, none, none] : am_L) = [some (.ref 36), some (.int (nI (f))), some (.int (nI (op))), some (.int (nI (jx a))), some (.int (nI (jn J 65 f))), some (.int (nI 1)), none, none, none] by rw [← ca.1]]
                      refine r_aload k69_283 rfl ?_
                      refine j_ref (b := 49) k69_284 hB rfl ?_
                      refine r_iload k69_287 rfl ?_
                      have b288 := ty_n hT (q := 49) (B := 3) (by decide) (by decide) (jx a)
                      refine j_ald (n := 5) (j := (jx a)) (v := (nI (jn J 49 (jx a)))) k69_288 hB rfl rfl (by omega) b288.1 ?_
                      refine r_ifneN (by omega) k69_289 (fun z289 => ?_) (fun z289 => ?_)
                      · refine r_aload k69_299 rfl ?_
                        have b300 := ty_f hT (q := 36) (j := 38) (B := 13) (by decide) (by decide)
                        refine j_get (j := 38) (v := (nI (jn J 36 38))) k69_300 hB rfl b300.1 ?_
                        refine r_pushn (v := nI 12) k69_303 rfl ?_
                        refine r_icmpneN (by omega) (by omega) k69_305 (fun z305 => ?_) (fun z305 => ?_)
                        · refine r_aload k69_315 rfl ?_
                          refine r_iload k69_316 rfl ?_
                          refine r_aload k69_317 rfl ?_
                          refine j_ref (b := 69) k69_318 hB rfl ?_
                          refine r_iload k69_321 rfl ?_
                          have b322 := ty_n hT (q := 69) (B := 12) (by decide) (by decide) f
                          refine j_ald (n := 320) (j := f) (v := (nI (jn J 69 f))) k69_322 hB rfl rfl (by omega) b322.1 ?_
                          refine r_aload k69_323 rfl ?_
                          refine j_ref (b := 49) k69_324 hB rfl ?_
                          refine r_aload k69_327 rfl ?_
                          refine j_ref (b := 63) k69_328 hB rfl ?_
                          refine r_aload k69_331 rfl ?_
                          have b332 := ty_f hT (q := 36) (j := 38) (B := 13) (by decide) (by decide)
                          refine j_get (j := 38) (v := (nI (jn J 36 38))) k69_332 hB rfl b332.1 ?_
                          refine r_pushn (v := nI 1) k69_335 rfl ?_
                          refine r_isubN (by omega) k69_336 ?_
                          have b337 := ty_n hT (q := 63) (B := 5) (by decide) (by decide) ((jn J 36 38) - 1)
                          refine j_ald (n := 13) (j := ((jn J 36 38) - 1)) (v := (nI (jn J 63 ((jn J 36 38) - 1)))) k69_337 hB rfl rfl (by omega) b337.1 ?_
                          have b338 := ty_n hT (q := 49) (B := 3) (by decide) (by decide) (jn J 63 ((jn J 36 38) - 1))
                          refine j_ald (n := 5) (j := (jn J 63 ((jn J 36 38) - 1))) (v := (nI (jn J 49 (jn J 63 ((jn J 36 38) - 1))))) k69_338 hB rfl rfl (by omega) b338.1 ?_
                          refine r_pushn (v := nI 2) k69_339 rfl ?_
                          refine r_icmpneN (by omega) (by omega) k69_340 (fun z340 => ?_) (fun z340 => ?_)
                          · refine r_aload k69_352 rfl ?_
                            refine j_ref (b := 69) k69_353 hB rfl ?_
                            refine r_iload k69_356 rfl ?_
                            have b357 := ty_n hT (q := 69) (B := 12) (by decide) (by decide) f
                            refine j_ald (n := 320) (j := f) (v := (nI (jn J 69 f))) k69_357 hB rfl rfl (by omega) b357.1 ?_
                            refine j_call (ml := 8) k69_358 rfl (show 0 < d.1 by omega) (show 19 + 8 ≤ d.2 by omega) ⟨Nat.le_of_ble_eq_true rfl, Nat.le_of_ble_eq_true rfl, am_obB hB rfl, Nat.le_of_ble_eq_true rfl⟩ rfl (rest := []) rfl (s_R_enter hB hT (jx a) (jn J 69 f) (jn J 69 f) (by omega) (by omega) (by omega) (by omega) (ht) (show 4 ≤ d.1 - 1 by omega) (show 96 ≤ d.2 - 27 by omega)) (fun r h1 hq => ?_)
                            obtain ⟨rfl, rfl, hT358⟩ := hq
                            show am_wp _ _ _ [some (.ref 36), some (.int (nI (f))), some (.int (nI (op))), some (.int (nI (jx a))), some (.int (nI (jn J 65 f))), some (.int (nI 1)), none, none, none] [.int ((R_enter J (jx a) (jn J 69 f) (jn J 69 f)).1)] _ _
                            have e9 : R_act J f op a = ((((R_enter J (jx a) (jn J 69 f) (jn J 69 f)).1), (R_enter J (jx a) (jn J 69 f) (jn J 69 f)).2)) := by unfold R_act; rw [am_ite_t z10, am_ite_f z26, am_ite_f y51_0, am_ite_f y51_1, am_ite_f y51_2, am_ite_f y51_3, am_ite_f y51_4, am_ite_f y51_5, am_ite_f y51_6, am_ite_t y51_7, am_ite_f z289, am_ite_f z305, am_ite_f z340]
                            exact r_zret k69_361 rfl (zb_R_enter) ⟨by rw [e9], by rw [e9], by rw [e9]; exact hT358⟩
                          · refine r_aload k69_343 rfl ?_
                            refine j_ref (b := 70) k69_344 hB rfl ?_
                            refine r_iload k69_347 rfl ?_
                            have b348 := ty_n hT (q := 70) (B := 12) (by decide) (by decide) f
                            refine j_ald (n := 320) (j := f) (v := (nI (jn J 70 f))) k69_348 hB rfl rfl (by omega) b348.1 ?_
                            refine r_goto k69_349 ?_
                            refine j_call (ml := 8) k69_358 rfl (show 0 < d.1 by omega) (show 19 + 8 ≤ d.2 by omega) ⟨Nat.le_of_ble_eq_true rfl, Nat.le_of_ble_eq_true rfl, am_obB hB rfl, Nat.le_of_ble_eq_true rfl⟩ rfl (rest := []) rfl (s_R_enter hB hT (jx a) (jn J 69 f) (jn J 70 f) (by omega) (by omega) (by omega) (by omega) (ht) (show 4 ≤ d.1 - 1 by omega) (show 96 ≤ d.2 - 27 by omega)) (fun r h1 hq => ?_)
                            obtain ⟨rfl, rfl, hT358⟩ := hq
                            show am_wp _ _ _ [some (.ref 36), some (.int (nI (f))), some (.int (nI (op))), some (.int (nI (jx a))), some (.int (nI (jn J 65 f))), some (.int (nI 1)), none, none, none] [.int ((R_enter J (jx a) (jn J 69 f) (jn J 70 f)).1)] _ _
                            have e9 : R_act J f op a = ((((R_enter J (jx a) (jn J 69 f) (jn J 70 f)).1), (R_enter J (jx a) (jn J 69 f) (jn J 70 f)).2)) := by unfold R_act; rw [am_ite_t z10, am_ite_f z26, am_ite_f y51_0, am_ite_f y51_1, am_ite_f y51_2, am_ite_f y51_3, am_ite_f y51_4, am_ite_f y51_5, am_ite_f y51_6, am_ite_t y51_7, am_ite_f z289, am_ite_f z305, am_ite_t z340]
                            exact r_zret k69_361 rfl (zb_R_enter) ⟨by rw [e9], by rw [e9], by rw [e9]; exact hT358⟩
                        · refine r_aload k69_308 rfl ?_
                          refine r_pushn (v := (-11)) k69_309 rfl ?_
                          refine j_call (ml := 2) k69_311 rfl (show 0 < d.1 by omega) (show 19 + 2 ≤ d.2 by omega) ⟨Nat.le_of_ble_eq_true rfl, Nat.le_of_ble_eq_true rfl, am_obB hB rfl, Nat.le_of_ble_eq_true rfl⟩ rfl (rest := []) rfl (s_R_stop hB hT ((-11))) (fun r h1 hq => ?_)
                          obtain ⟨rfl, rfl, hT311⟩ := hq
                          show am_wp _ _ _ [some (.ref 36), some (.int (nI (f))), some (.int (nI (op))), some (.int (nI (jx a))), some (.int (nI (jn J 65 f))), some (.int (nI 1)), none, none, none] [.int ((R_stop J ((-11))).1)] _ _
                          rw [show (R_stop J ((-11))).1 = nI 0 from rfl]
                          have e9 : R_act J f op a = (((nI 0), (R_stop J ((-11))).2)) := by unfold R_act; rw [am_ite_t z10, am_ite_f z26, am_ite_f y51_0, am_ite_f y51_1, am_ite_f y51_2, am_ite_f y51_3, am_ite_f y51_4, am_ite_f y51_5, am_ite_f y51_6, am_ite_t y51_7, am_ite_f z289, am_ite_t z305]
                          exact r_zret k69_314 rfl (by decide) ⟨by rw [e9], by rw [e9], by rw [e9]; exact hT311⟩
                      · refine r_aload k69_292 rfl ?_
                        refine r_pushn (v := (-2)) k69_293 rfl ?_
                        refine j_call (ml := 2) k69_295 rfl (show 0 < d.1 by omega) (show 19 + 2 ≤ d.2 by omega) ⟨Nat.le_of_ble_eq_true rfl, Nat.le_of_ble_eq_true rfl, am_obB hB rfl, Nat.le_of_ble_eq_true rfl⟩ rfl (rest := []) rfl (s_R_stop hB hT ((-2))) (fun r h1 hq => ?_)
                        obtain ⟨rfl, rfl, hT295⟩ := hq
                        show am_wp _ _ _ [some (.ref 36), some (.int (nI (f))), some (.int (nI (op))), some (.int (nI (jx a))), some (.int (nI (jn J 65 f))), some (.int (nI 1)), none, none, none] [.int ((R_stop J ((-2))).1)] _ _
                        rw [show (R_stop J ((-2))).1 = nI 0 from rfl]
                        have e9 : R_act J f op a = (((nI 0), (R_stop J ((-2))).2)) := by unfold R_act; rw [am_ite_t z10, am_ite_f z26, am_ite_f y51_0, am_ite_f y51_1, am_ite_f y51_2, am_ite_f y51_3, am_ite_f y51_4, am_ite_f y51_5, am_ite_f y51_6, am_ite_t y51_7, am_ite_t z289]
                        exact r_zret k69_298 rfl (by decide) ⟨by rw [e9], by rw [e9], by rw [e9]; exact hT295⟩
                    · by_cases y51_8 : op = 8
                      · refine r_tsIn k69_51 (by rw [y51_8]; decide) (t := 362) (by rw [y51_8]; rfl) ?_
                        refine r_aload k69_362 rfl ?_
                        refine r_aload k69_363 rfl ?_
                        refine j_ref (b := 69) k69_364 hB rfl ?_
                        refine r_iload k69_367 rfl ?_
                        have b368 := ty_n hT (q := 69) (B := 12) (by decide) (by decide) f
                        refine j_ald (n := 320) (j := f) (v := (nI (jn J 69 f))) k69_368 hB rfl rfl (by omega) b368.1 ?_
                        refine r_iload k69_369 rfl ?_
                        refine j_call (ml := 3) k69_370 rfl (show 0 < d.1 by omega) (show 19 + 3 ≤ d.2 by omega) ⟨Nat.le_of_ble_eq_true rfl, Nat.le_of_ble_eq_true rfl, am_obB hB rfl, Nat.le_of_ble_eq_true rfl⟩ rfl (rest := []) rfl (s_R_become hB hT (nI (jn J 69 f)) a (show 4 ≤ d.1 - 1 by omega) (show 94 ≤ d.2 - 22 by omega)) (fun r h1 hq => ?_)
                        obtain ⟨rfl, rfl, hT370⟩ := hq
                        show am_wp _ _ _ [some (.ref 36), some (.int (nI (f))), some (.int (nI (op))), some (.int (a)), some (.int (nI (jn J 65 f))), some (.int (nI 1)), none, none, none] [.int ((R_become J (nI (jn J 69 f)) a).1)] _ _
                        refine r_pushn (v := nI 1) k69_373 rfl ?_
                        refine r_icmpeq k69_374 (fun z374 => ?_) (fun z374 => ?_)
                        · refine r_pushn (v := nI 1) k69_386 rfl ?_
                          refine r_goto k69_387 ?_
                          have e9 : R_act J f op a = (((nI 1), (R_become J (nI (jn J 69 f)) a).2)) := by unfold R_act; rw [am_ite_t z10, am_ite_f z26, am_ite_f y51_0, am_ite_f y51_1, am_ite_f y51_2, am_ite_f y51_3, am_ite_f y51_4, am_ite_f y51_5, am_ite_f y51_6, am_ite_f y51_7, am_ite_t y51_8, am_ite_t z374]
                          exact r_zret k69_391 rfl (by decide) ⟨by rw [e9], by rw [e9], by rw [e9]; exact hT370⟩
                        · refine r_aload k69_377 rfl ?_
                          refine r_pushn (v := (-2)) k69_378 rfl ?_
                          refine j_call (ml := 2) k69_380 rfl (show 0 < d.1 by omega) (show 19 + 2 ≤ d.2 by omega) ⟨Nat.le_of_ble_eq_true rfl, Nat.le_of_ble_eq_true rfl, am_obB hB rfl, Nat.le_of_ble_eq_true rfl⟩ rfl (rest := []) rfl (s_R_stop hB hT370 ((-2))) (fun r h1 hq => ?_)
                          obtain ⟨rfl, rfl, hT380⟩ := hq
                          show am_wp _ _ _ [some (.ref 36), some (.int (nI (f))), some (.int (nI (op))), some (.int (a)), some (.int (nI (jn J 65 f))), some (.int (nI 1)), none, none, none] [.int ((R_stop ((R_become J (nI (jn J 69 f)) a).2) ((-2))).1)] _ _
                          rw [show (R_stop ((R_become J (nI (jn J 69 f)) a).2) ((-2))).1 = nI 0 from rfl]
                          refine r_ifeqN (by omega) k69_383 (fun _ => ?_) (fun z => absurd z (by decide))
                          refine r_pushn (v := nI 0) k69_390 rfl ?_
                          have e9 : R_act J f op a = (((nI 0), (R_stop ((R_become J (nI (jn J 69 f)) a).2) ((-2))).2)) := by unfold R_act; rw [am_ite_t z10, am_ite_f z26, am_ite_f y51_0, am_ite_f y51_1, am_ite_f y51_2, am_ite_f y51_3, am_ite_f y51_4, am_ite_f y51_5, am_ite_f y51_6, am_ite_f y51_7, am_ite_t y51_8, am_ite_f z374]
                          exact r_zret k69_391 rfl (by decide) ⟨by rw [e9], by rw [e9], by rw [e9]; exact hT380⟩
                      · refine am_tsd k69_51 (fun v h1 h2 => ?_) (fun v h1 h2 e1 => ?_) ?_
                        · rcases (show v = 0 ∨ v = 1 ∨ v = 2 ∨ v = 3 ∨ v = 4 ∨ v = 5 ∨ v = 6 ∨ v = 7 ∨ v = 8 by omega) with rfl | rfl | rfl | rfl | rfl | rfl | rfl | rfl | rfl
                          · exact Or.inl (fun q => y51_0 ((nI_eq (by omega) (by decide)).mp q))
                          · exact Or.inl (fun q => y51_1 ((nI_eq (by omega) (by decide)).mp q))
                          · exact Or.inl (fun q => y51_2 ((nI_eq (by omega) (by decide)).mp q))
                          · exact Or.inl (fun q => y51_3 ((nI_eq (by omega) (by decide)).mp q))
                          · exact Or.inl (fun q => y51_4 ((nI_eq (by omega) (by decide)).mp q))
                          · exact Or.inl (fun q => y51_5 ((nI_eq (by omega) (by decide)).mp q))
                          · exact Or.inl (fun q => y51_6 ((nI_eq (by omega) (by decide)).mp q))
                          · exact Or.inl (fun q => y51_7 ((nI_eq (by omega) (by decide)).mp q))
                          · exact Or.inl (fun q => y51_8 ((nI_eq (by omega) (by decide)).mp q))
                        · exact rfl
                        · refine r_aload k69_392 rfl ?_
                          refine j_ref (b := 49) k69_393 hB rfl ?_
                          refine r_aload k69_396 rfl ?_
                          refine j_ref (b := 63) k69_397 hB rfl ?_
                          refine r_aload k69_400 rfl ?_
                          have b401 := ty_f hT (q := 36) (j := 38) (B := 13) (by decide) (by decide)
                          refine j_get (j := 38) (v := (nI (jn J 36 38))) k69_401 hB rfl b401.1 ?_
                          refine r_pushn (v := nI 1) k69_404 rfl ?_
                          refine r_isubN (by omega) k69_405 ?_
                          have b406 := ty_n hT (q := 63) (B := 5) (by decide) (by decide) ((jn J 36 38) - 1)
                          refine j_ald (n := 13) (j := ((jn J 36 38) - 1)) (v := (nI (jn J 63 ((jn J 36 38) - 1)))) k69_406 hB rfl rfl (by omega) b406.1 ?_
                          have b407 := ty_n hT (q := 49) (B := 3) (by decide) (by decide) (jn J 63 ((jn J 36 38) - 1))
                          refine j_ald (n := 5) (j := (jn J 63 ((jn J 36 38) - 1))) (v := (nI (jn J 49 (jn J 63 ((jn J 36 38) - 1))))) k69_407 hB rfl rfl (by omega) b407.1 ?_
                          refine r_pushn (v := nI 2) k69_408 rfl ?_
                          refine r_icmpgeN (by omega) (by omega) k69_409 (fun z409 => ?_) (fun z409 => ?_)
                          · refine r_aload k69_414 rfl ?_
                            refine j_ref (b := 69) k69_415 hB rfl ?_
                            refine r_iload k69_418 rfl ?_
                            have b419 := ty_n hT (q := 69) (B := 12) (by decide) (by decide) f
                            refine j_ald (n := 320) (j := f) (v := (nI (jn J 69 f))) k69_419 hB rfl rfl (by omega) b419.1 ?_
                            refine r_istore (L' := [some (.ref 36), some (.int (nI (f))), some (.int (nI (op))), some (.int (a)), some (.int (nI (jn J 65 f))), some (.int (nI 1)), none, none, some (.int (nI (jn J 69 f)))]) k69_420 (Nat.le_of_ble_eq_true rfl) rfl ?_
                            refine r_aload k69_422 rfl ?_
                            refine j_ref (b := 69) k69_423 hB rfl ?_
                            refine r_iload k69_426 rfl ?_
                            refine r_aload k69_427 rfl ?_
                            refine j_ref (b := 70) k69_428 hB rfl ?_
                            refine r_iload k69_431 rfl ?_
                            have b432 := ty_n hT (q := 70) (B := 12) (by decide) (by decide) f
                            refine j_ald (n := 320) (j := f) (v := (nI (jn J 70 f))) k69_432 hB rfl rfl (by omega) b432.1 ?_
                            refine j_ast (n := 320) (j := f) k69_433 hB rfl rfl (by omega) ?_
                            have hT433 : am_ty2 (am_u2 J 69 f (nI (jn J 70 f))) := ty_w hT (tw_n (B := 12) (by decide) (by decide) (by decide) (by omega))
                            refine r_aload k69_434 rfl ?_
                            refine j_ref (b := 70) k69_435 hB rfl ?_
                            refine r_iload k69_438 rfl ?_
                            refine r_iload k69_439 rfl ?_
                            refine j_ast (n := 320) (j := f) k69_441 hB rfl rfl (by omega) ?_
                            have hT441 : am_ty2 (am_u2 (am_u2 J 69 f (nI (jn J 70 f))) 70 f (nI (jn J 69 f))) := ty_w hT433 (tw_n (B := 12) (by decide) (by decide) (by decide) (by omega))
                            refine r_pushn (v := nI 1) k69_442 rfl ?_
                            have e9 : R_act J f op a = (((nI 1), am_u2 (am_u2 J 69 f (nI (jn J 70 f))) 70 f (nI (jn J 69 f)))) := by unfold R_act; rw [am_ite_t z10, am_ite_f z26, am_ite_f y51_0, am_ite_f y51_1, am_ite_f y51_2, am_ite_f y51_3, am_ite_f y51_4, am_ite_f y51_5, am_ite_f y51_6, am_ite_f y51_7, am_ite_f y51_8, am_ite_t z409]
                            exact r_zret k69_443 rfl (by decide) ⟨by rw [e9], by rw [e9], by rw [e9]; exact hT441⟩
                          · refine r_pushn (v := nI 1) k69_412 rfl ?_
                            have e9 : R_act J f op a = (((nI 1), J)) := by unfold R_act; rw [am_ite_t z10, am_ite_f z26, am_ite_f y51_0, am_ite_f y51_1, am_ite_f y51_2, am_ite_f y51_3, am_ite_f y51_4, am_ite_f y51_5, am_ite_f y51_6, am_ite_f y51_7, am_ite_f y51_8, am_ite_f z409]
                            exact r_zret k69_413 rfl (by decide) ⟨by rw [e9], by rw [e9], by rw [e9]; exact hT⟩
theorem fr_R_act {J : Nat → Nat → Int32} {f : Nat} {op : Nat} {a : Int32} (q : Nat) (hq : ¬ q = 36 ∧ ¬ q = 44 ∧ ¬ q = 45 ∧ ¬ q = 46 ∧ ¬ q = 47 ∧ ¬ q = 48 ∧ ¬ q = 58 ∧ ¬ q = 59 ∧ ¬ q = 60 ∧ ¬ q = 61 ∧ ¬ q = 62 ∧ ¬ q = 63 ∧ ¬ q = 64 ∧ ¬ q = 65 ∧ ¬ q = 66 ∧ ¬ q = 67 ∧ ¬ q = 68 ∧ ¬ q = 69 ∧ ¬ q = 70 ∧ ¬ q = 71 ∧ ¬ q = 72 ∧ ¬ q = 73) : (R_act J f op a).2 q = J q := by
  unfold R_act
  refine fr_i2 (fun _ => ?_) (fun _ => ?_)
  · refine fr_i2 (fun _ => ?_) (fun _ => ?_)
    · refine fr_i2 (fun _ => ?_) (fun _ => ?_)
      · exact fr_u (by omega)
      · refine fr_i2 (fun _ => ?_) (fun _ => ?_)
        · exact fr_u (by omega)
        · refine fr_i2 (fun _ => ?_) (fun _ => ?_)
          · refine fr_i2 (fun _ => ?_) (fun _ => ?_)
            · exact (fr_u (by omega)).trans (fr_R_get q (by omega))
            · exact fr_R_get q (by omega)
          · refine fr_i2 (fun _ => ?_) (fun _ => ?_)
            · refine fr_i2 (fun _ => ?_) (fun _ => ?_)
              · exact fr_R_put q (by omega)
              · exact fr_R_put q (by omega)
            · refine fr_i2 (fun _ => ?_) (fun _ => ?_)
              · exact fr_R_begin q (by omega)
              · refine fr_i2 (fun _ => ?_) (fun _ => ?_)
                · exact fr_u (by omega)
                · refine fr_i2 (fun _ => ?_) (fun _ => ?_)
                  · exact (fr_R_n9 q (by omega)).trans (fl_R_nt q (by omega) _ _)
                  · refine fr_i2 (fun _ => ?_) (fun _ => ?_)
                    · refine fr_i2 (fun _ => ?_) (fun _ => ?_)
                      · exact fr_R_stop q (by omega)
                      · refine fr_i2 (fun _ => ?_) (fun _ => ?_)
                        · exact fr_R_stop q (by omega)
                        · refine fr_i2 (fun _ => ?_) (fun _ => ?_)
                          · exact fr_R_enter q (by omega)
                          · exact fr_R_enter q (by omega)
                    · refine fr_i2 (fun _ => ?_) (fun _ => ?_)
                      · refine fr_i2 (fun _ => ?_) (fun _ => ?_)
                        · exact fr_R_become q (by omega)
                        · exact (fr_R_stop q (by omega)).trans (fr_R_become q (by omega))
                      · refine fr_i2 (fun _ => ?_) (fun _ => ?_)
                        · exact (fr_u (by omega)).trans (fr_u (by omega))
                        · exact rfl
    · refine fr_i2 (fun _ => ?_) (fun _ => ?_)
      · exact fr_u (by omega)
      · refine fr_i2 (fun _ => ?_) (fun _ => ?_)
        · exact fr_u (by omega)
        · refine fr_i2 (fun _ => ?_) (fun _ => ?_)
          · refine fr_i2 (fun _ => ?_) (fun _ => ?_)
            · exact (fr_u (by omega)).trans (fr_R_get q (by omega))
            · exact fr_R_get q (by omega)
          · refine fr_i2 (fun _ => ?_) (fun _ => ?_)
            · refine fr_i2 (fun _ => ?_) (fun _ => ?_)
              · exact fr_R_put q (by omega)
              · exact fr_R_put q (by omega)
            · refine fr_i2 (fun _ => ?_) (fun _ => ?_)
              · exact fr_R_stop q (by omega)
              · refine fr_i2 (fun _ => ?_) (fun _ => ?_)
                · exact fr_u (by omega)
                · refine fr_i2 (fun _ => ?_) (fun _ => ?_)
                  · exact (fr_R_n9 q (by omega)).trans (fl_R_nt q (by omega) _ _)
                  · refine fr_i2 (fun _ => ?_) (fun _ => ?_)
                    · refine fr_i2 (fun _ => ?_) (fun _ => ?_)
                      · exact fr_R_stop q (by omega)
                      · refine fr_i2 (fun _ => ?_) (fun _ => ?_)
                        · exact fr_R_stop q (by omega)
                        · refine fr_i2 (fun _ => ?_) (fun _ => ?_)
                          · exact fr_R_enter q (by omega)
                          · exact fr_R_enter q (by omega)
                    · refine fr_i2 (fun _ => ?_) (fun _ => ?_)
                      · refine fr_i2 (fun _ => ?_) (fun _ => ?_)
                        · exact fr_R_become q (by omega)
                        · exact (fr_R_stop q (by omega)).trans (fr_R_become q (by omega))
                      · refine fr_i2 (fun _ => ?_) (fun _ => ?_)
                        · exact (fr_u (by omega)).trans (fr_u (by omega))
                        · exact rfl
  · refine fr_i2 (fun _ => ?_) (fun _ => ?_)
    · refine fr_i2 (fun _ => ?_) (fun _ => ?_)
      · exact fr_u (by omega)
      · refine fr_i2 (fun _ => ?_) (fun _ => ?_)
        · exact fr_u (by omega)
        · refine fr_i2 (fun _ => ?_) (fun _ => ?_)
          · refine fr_i2 (fun _ => ?_) (fun _ => ?_)
            · exact (fr_u (by omega)).trans (fr_R_get q (by omega))
            · exact fr_R_get q (by omega)
          · refine fr_i2 (fun _ => ?_) (fun _ => ?_)
            · refine fr_i2 (fun _ => ?_) (fun _ => ?_)
              · exact fr_R_put q (by omega)
              · exact fr_R_put q (by omega)
            · refine fr_i2 (fun _ => ?_) (fun _ => ?_)
              · exact fr_R_begin q (by omega)
              · refine fr_i2 (fun _ => ?_) (fun _ => ?_)
                · exact fr_u (by omega)
                · refine fr_i2 (fun _ => ?_) (fun _ => ?_)
                  · exact (fr_R_n9 q (by omega)).trans (fl_R_nt q (by omega) _ _)
                  · refine fr_i2 (fun _ => ?_) (fun _ => ?_)
                    · refine fr_i2 (fun _ => ?_) (fun _ => ?_)
                      · exact fr_R_stop q (by omega)
                      · refine fr_i2 (fun _ => ?_) (fun _ => ?_)
                        · exact fr_R_stop q (by omega)
                        · refine fr_i2 (fun _ => ?_) (fun _ => ?_)
                          · exact fr_R_enter q (by omega)
                          · exact fr_R_enter q (by omega)
                    · refine fr_i2 (fun _ => ?_) (fun _ => ?_)
                      · refine fr_i2 (fun _ => ?_) (fun _ => ?_)
                        · exact fr_R_become q (by omega)
                        · exact (fr_R_stop q (by omega)).trans (fr_R_become q (by omega))
                      · refine fr_i2 (fun _ => ?_) (fun _ => ?_)
                        · exact (fr_u (by omega)).trans (fr_u (by omega))
                        · exact rfl
    · refine fr_i2 (fun _ => ?_) (fun _ => ?_)
      · exact fr_u (by omega)
      · refine fr_i2 (fun _ => ?_) (fun _ => ?_)
        · exact fr_u (by omega)
        · refine fr_i2 (fun _ => ?_) (fun _ => ?_)
          · refine fr_i2 (fun _ => ?_) (fun _ => ?_)
            · exact (fr_u (by omega)).trans (fr_R_get q (by omega))
            · exact fr_R_get q (by omega)
          · refine fr_i2 (fun _ => ?_) (fun _ => ?_)
            · refine fr_i2 (fun _ => ?_) (fun _ => ?_)
              · exact fr_R_put q (by omega)
              · exact fr_R_put q (by omega)
            · refine fr_i2 (fun _ => ?_) (fun _ => ?_)
              · exact fr_R_stop q (by omega)
              · refine fr_i2 (fun _ => ?_) (fun _ => ?_)
                · exact fr_u (by omega)
                · refine fr_i2 (fun _ => ?_) (fun _ => ?_)
                  · exact (fr_R_n9 q (by omega)).trans (fl_R_nt q (by omega) _ _)
                  · refine fr_i2 (fun _ => ?_) (fun _ => ?_)
                    · refine fr_i2 (fun _ => ?_) (fun _ => ?_)
                      · exact fr_R_stop q (by omega)
                      · refine fr_i2 (fun _ => ?_) (fun _ => ?_)
                        · exact fr_R_stop q (by omega)
                        · refine fr_i2 (fun _ => ?_) (fun _ => ?_)
                          · exact fr_R_enter q (by omega)
                          · exact fr_R_enter q (by omega)
                    · refine fr_i2 (fun _ => ?_) (fun _ => ?_)
                      · refine fr_i2 (fun _ => ?_) (fun _ => ?_)
                        · exact fr_R_become q (by omega)
                        · exact (fr_R_stop q (by omega)).trans (fr_R_become q (by omega))
                      · refine fr_i2 (fun _ => ?_) (fun _ => ?_)
                        · exact (fr_u (by omega)).trans (fr_u (by omega))
                        · exact rfl
theorem zb_R_act {J : Nat → Nat → Int32} {f op : Nat} {a : Int32} : (R_act J f op a).1 &&& 1 = (R_act J f op a).1 := by
  unfold R_act
  refine zb_i (fun _ => ?_) (fun _ => ?_)
  · refine zb_i (fun _ => ?_) (fun _ => ?_)
    · refine zb_i (fun _ => ?_) (fun _ => ?_)
      · exact (show (nI 1) &&& 1 = nI 1 by decide)
      · refine zb_i (fun _ => ?_) (fun _ => ?_)
        · exact (show (nI 1) &&& 1 = nI 1 by decide)
        · refine zb_i (fun _ => ?_) (fun _ => ?_)
          · refine zb_i (fun _ => ?_) (fun _ => ?_)
            · exact (show (nI 1) &&& 1 = nI 1 by decide)
            · exact (show (nI 0) &&& 1 = nI 0 by decide)
          · refine zb_i (fun _ => ?_) (fun _ => ?_)
            · refine zb_i (fun _ => ?_) (fun _ => ?_)
              · exact (show (nI 1) &&& 1 = nI 1 by decide)
              · exact (show (nI 0) &&& 1 = nI 0 by decide)
            · refine zb_i (fun _ => ?_) (fun _ => ?_)
              · exact (show (nI 1) &&& 1 = nI 1 by decide)
              · refine zb_i (fun _ => ?_) (fun _ => ?_)
                · exact (show (nI 1) &&& 1 = nI 1 by decide)
                · refine zb_i (fun _ => ?_) (fun _ => ?_)
                  · exact zb_R_n9
                  · refine zb_i (fun _ => ?_) (fun _ => ?_)
                    · refine zb_i (fun _ => ?_) (fun _ => ?_)
                      · exact (show (nI 0) &&& 1 = nI 0 by decide)
                      · refine zb_i (fun _ => ?_) (fun _ => ?_)
                        · exact (show (nI 0) &&& 1 = nI 0 by decide)
                        · refine zb_i (fun _ => ?_) (fun _ => ?_)
                          · exact zb_R_enter
                          · exact zb_R_enter
                    · refine zb_i (fun _ => ?_) (fun _ => ?_)
                      · refine zb_i (fun _ => ?_) (fun _ => ?_)
                        · exact (show (nI 1) &&& 1 = nI 1 by decide)
                        · exact (show (nI 0) &&& 1 = nI 0 by decide)
                      · refine zb_i (fun _ => ?_) (fun _ => ?_)
                        · exact (show (nI 1) &&& 1 = nI 1 by decide)
                        · exact (show (nI 1) &&& 1 = nI 1 by decide)
    · refine zb_i (fun _ => ?_) (fun _ => ?_)
      · exact (show (nI 1) &&& 1 = nI 1 by decide)
      · refine zb_i (fun _ => ?_) (fun _ => ?_)
        · exact (show (nI 1) &&& 1 = nI 1 by decide)
        · refine zb_i (fun _ => ?_) (fun _ => ?_)
          · refine zb_i (fun _ => ?_) (fun _ => ?_)
            · exact (show (nI 1) &&& 1 = nI 1 by decide)
            · exact (show (nI 0) &&& 1 = nI 0 by decide)
          · refine zb_i (fun _ => ?_) (fun _ => ?_)
            · refine zb_i (fun _ => ?_) (fun _ => ?_)
              · exact (show (nI 1) &&& 1 = nI 1 by decide)
              · exact (show (nI 0) &&& 1 = nI 0 by decide)
            · refine zb_i (fun _ => ?_) (fun _ => ?_)
              · exact (show (nI 0) &&& 1 = nI 0 by decide)
              · refine zb_i (fun _ => ?_) (fun _ => ?_)
                · exact (show (nI 1) &&& 1 = nI 1 by decide)
                · refine zb_i (fun _ => ?_) (fun _ => ?_)
                  · exact zb_R_n9
                  · refine zb_i (fun _ => ?_) (fun _ => ?_)
                    · refine zb_i (fun _ => ?_) (fun _ => ?_)
                      · exact (show (nI 0) &&& 1 = nI 0 by decide)
                      · refine zb_i (fun _ => ?_) (fun _ => ?_)
                        · exact (show (nI 0) &&& 1 = nI 0 by decide)
                        · refine zb_i (fun _ => ?_) (fun _ => ?_)
                          · exact zb_R_enter
                          · exact zb_R_enter
                    · refine zb_i (fun _ => ?_) (fun _ => ?_)
                      · refine zb_i (fun _ => ?_) (fun _ => ?_)
                        · exact (show (nI 1) &&& 1 = nI 1 by decide)
                        · exact (show (nI 0) &&& 1 = nI 0 by decide)
                      · refine zb_i (fun _ => ?_) (fun _ => ?_)
                        · exact (show (nI 1) &&& 1 = nI 1 by decide)
                        · exact (show (nI 1) &&& 1 = nI 1 by decide)
  · refine zb_i (fun _ => ?_) (fun _ => ?_)
    · refine zb_i (fun _ => ?_) (fun _ => ?_)
      · exact (show (nI 1) &&& 1 = nI 1 by decide)
      · refine zb_i (fun _ => ?_) (fun _ => ?_)
        · exact (show (nI 1) &&& 1 = nI 1 by decide)
        · refine zb_i (fun _ => ?_) (fun _ => ?_)
          · refine zb_i (fun _ => ?_) (fun _ => ?_)
            · exact (show (nI 1) &&& 1 = nI 1 by decide)
            · exact (show (nI 0) &&& 1 = nI 0 by decide)
          · refine zb_i (fun _ => ?_) (fun _ => ?_)
            · refine zb_i (fun _ => ?_) (fun _ => ?_)
              · exact (show (nI 1) &&& 1 = nI 1 by decide)
              · exact (show (nI 0) &&& 1 = nI 0 by decide)
            · refine zb_i (fun _ => ?_) (fun _ => ?_)
              · exact (show (nI 1) &&& 1 = nI 1 by decide)
              · refine zb_i (fun _ => ?_) (fun _ => ?_)
                · exact (show (nI 1) &&& 1 = nI 1 by decide)
                · refine zb_i (fun _ => ?_) (fun _ => ?_)
                  · exact zb_R_n9
                  · refine zb_i (fun _ => ?_) (fun _ => ?_)
                    · refine zb_i (fun _ => ?_) (fun _ => ?_)
                      · exact (show (nI 0) &&& 1 = nI 0 by decide)
                      · refine zb_i (fun _ => ?_) (fun _ => ?_)
                        · exact (show (nI 0) &&& 1 = nI 0 by decide)
                        · refine zb_i (fun _ => ?_) (fun _ => ?_)
                          · exact zb_R_enter
                          · exact zb_R_enter
                    · refine zb_i (fun _ => ?_) (fun _ => ?_)
                      · refine zb_i (fun _ => ?_) (fun _ => ?_)
                        · exact (show (nI 1) &&& 1 = nI 1 by decide)
                        · exact (show (nI 0) &&& 1 = nI 0 by decide)
                      · refine zb_i (fun _ => ?_) (fun _ => ?_)
                        · exact (show (nI 1) &&& 1 = nI 1 by decide)
                        · exact (show (nI 1) &&& 1 = nI 1 by decide)
    · refine zb_i (fun _ => ?_) (fun _ => ?_)
      · exact (show (nI 1) &&& 1 = nI 1 by decide)
      · refine zb_i (fun _ => ?_) (fun _ => ?_)
        · exact (show (nI 1) &&& 1 = nI 1 by decide)
        · refine zb_i (fun _ => ?_) (fun _ => ?_)
          · refine zb_i (fun _ => ?_) (fun _ => ?_)
            · exact (show (nI 1) &&& 1 = nI 1 by decide)
            · exact (show (nI 0) &&& 1 = nI 0 by decide)
          · refine zb_i (fun _ => ?_) (fun _ => ?_)
            · refine zb_i (fun _ => ?_) (fun _ => ?_)
              · exact (show (nI 1) &&& 1 = nI 1 by decide)
              · exact (show (nI 0) &&& 1 = nI 0 by decide)
            · refine zb_i (fun _ => ?_) (fun _ => ?_)
              · exact (show (nI 0) &&& 1 = nI 0 by decide)
              · refine zb_i (fun _ => ?_) (fun _ => ?_)
                · exact (show (nI 1) &&& 1 = nI 1 by decide)
                · refine zb_i (fun _ => ?_) (fun _ => ?_)
                  · exact zb_R_n9
                  · refine zb_i (fun _ => ?_) (fun _ => ?_)
                    · refine zb_i (fun _ => ?_) (fun _ => ?_)
                      · exact (show (nI 0) &&& 1 = nI 0 by decide)
                      · refine zb_i (fun _ => ?_) (fun _ => ?_)
                        · exact (show (nI 0) &&& 1 = nI 0 by decide)
                        · refine zb_i (fun _ => ?_) (fun _ => ?_)
                          · exact zb_R_enter
                          · exact zb_R_enter
                    · refine zb_i (fun _ => ?_) (fun _ => ?_)
                      · refine zb_i (fun _ => ?_) (fun _ => ?_)
                        · exact (show (nI 1) &&& 1 = nI 1 by decide)
                        · exact (show (nI 0) &&& 1 = nI 0 by decide)
                      · refine zb_i (fun _ => ?_) (fun _ => ?_)
                        · exact (show (nI 1) &&& 1 = nI 1 by decide)
                        · exact (show (nI 1) &&& 1 = nI 1 by decide)
noncomputable def R_work (J : Nat → Nat → Int32) : Int32 × (Nat → Nat → Int32) := (am_ite ((jn J 65 ((jn J 36 39) - 1)) = 9) (((nI 1), R_mid J ((jn J 36 39) - 1))) (am_ite ((jn J 67 ((jn J 36 39) - 1)) < (jn J 57 (jn J 71 ((jn J 36 39) - 1)))) (am_ite ((jn J 36 41) = 300) (((nI 0), (R_stop J ((-11))).2)) ((((R_act (am_u2 (am_u2 (am_u2 J 36 41 (nI ((jn J 36 41) + 1))) 73 9 ((J 73 9) + (nI 1))) 67 ((jn J 36 39) - 1) (nI ((jn J 67 ((jn J 36 39) - 1)) + 1))) ((jn J 36 39) - 1) (jn J 55 ((8 * (jn J 71 ((jn J 36 39) - 1))) + (jn J 67 ((jn J 36 39) - 1)))) (J 56 ((8 * (jn J 71 ((jn J 36 39) - 1))) + (jn J 67 ((jn J 36 39) - 1))))).1), (R_act (am_u2 (am_u2 (am_u2 J 36 41 (nI ((jn J 36 41) + 1))) 73 9 ((J 73 9) + (nI 1))) 67 ((jn J 36 39) - 1) (nI ((jn J 67 ((jn J 36 39) - 1)) + 1))) ((jn J 36 39) - 1) (jn J 55 ((8 * (jn J 71 ((jn J 36 39) - 1))) + (jn J 67 ((jn J 36 39) - 1)))) (J 56 ((8 * (jn J 71 ((jn J 36 39) - 1))) + (jn J 67 ((jn J 36 39) - 1))))).2))) (((nI 1), R_give J (J 68 ((jn J 36 39) - 1))))))
set_option maxRecDepth 20000 in
theorem s_R_work {d : am_D} {h : am_H} {J : Nat → Nat → Int32} (hB : am_B h) (hT : am_ty2 J) (hl : 0 < jn J 36 38) (h0 : 0 < jn J 36 39) (ht : jn J 36 39 < 320) (hs9 : jn J 67 ((jn J 36 39) - 1) < 19) (hp9 : jn J 65 ((jn J 36 39) - 1) = 3 → jn J 66 ((jn J 36 39) - 1) < 15) (ha : ∀ j, jn J 55 j = 7 → J 56 j = nI (jx (J 56 j)) ∧ jx (J 56 j) < 5) (hd : 7 ≤ d.1) (hw : 169 ≤ d.2) : am_wp d 67 0 [some (.ref 36), none, none, none] [] (am_si h J) (fun r h' => r = some (.int (R_work J).1) ∧ h' = am_si h (R_work J).2 ∧ am_ty2 (R_work J).2) := by
  refine r_aload k67_0 rfl ?_
  have b1 := ty_f hT (q := 36) (j := 39) (B := 321) (by decide) (by decide)
  refine j_get (j := 39) (v := (nI (jn J 36 39))) k67_1 hB rfl b1.1 ?_
  refine r_pushn (v := nI 1) k67_4 rfl ?_
  refine r_isubN (by omega) k67_5 ?_
  refine r_istore (L' := [some (.ref 36), some (.int (nI ((jn J 36 39) - 1))), none, none]) k67_6 (Nat.le_of_ble_eq_true rfl) rfl ?_
  refine r_aload k67_7 rfl ?_
  refine j_ref (b := 65) k67_8 hB rfl ?_
  refine r_iload k67_11 rfl ?_
  have b12 := ty_n hT (q := 65) (B := 10) (by decide) (by decide) ((jn J 36 39) - 1)
  refine j_ald (n := 320) (j := ((jn J 36 39) - 1)) (v := (nI (jn J 65 ((jn J 36 39) - 1)))) k67_12 hB rfl rfl (by omega) b12.1 ?_
  refine r_pushn (v := nI 9) k67_13 rfl ?_
  refine r_icmpneN (by omega) (by omega) k67_15 (fun z15 => ?_) (fun z15 => ?_)
  · refine r_aload k67_25 rfl ?_
    refine j_ref (b := 71) k67_26 hB rfl ?_
    refine r_iload k67_29 rfl ?_
    have b30 := ty_n hT (q := 71) (B := 8) (by decide) (by decide) ((jn J 36 39) - 1)
    refine j_ald (n := 320) (j := ((jn J 36 39) - 1)) (v := (nI (jn J 71 ((jn J 36 39) - 1)))) k67_30 hB rfl rfl (by omega) b30.1 ?_
    refine r_istore (L' := [some (.ref 36), some (.int (nI ((jn J 36 39) - 1))), some (.int (nI (jn J 71 ((jn J 36 39) - 1)))), none]) k67_31 (Nat.le_of_ble_eq_true rfl) rfl ?_
    refine r_aload k67_32 rfl ?_
    refine j_ref (b := 67) k67_33 hB rfl ?_
    refine r_iload k67_36 rfl ?_
    have b37 := ty_n hT (q := 67) (B := 20) (by decide) (by decide) ((jn J 36 39) - 1)
    refine j_ald (n := 320) (j := ((jn J 36 39) - 1)) (v := (nI (jn J 67 ((jn J 36 39) - 1)))) k67_37 hB rfl rfl (by omega) b37.1 ?_
    refine r_istore (L' := [some (.ref 36), some (.int (nI ((jn J 36 39) - 1))), some (.int (nI (jn J 71 ((jn J 36 39) - 1)))), some (.int (nI (jn J 67 ((jn J 36 39) - 1))))]) k67_38 (Nat.le_of_ble_eq_true rfl) rfl ?_
    refine r_iload k67_39 rfl ?_
    refine r_aload k67_40 rfl ?_
    refine j_ref (b := 57) k67_41 hB rfl ?_
    refine r_iload k67_44 rfl ?_
    have b45 := ty_n hT (q := 57) (B := 9) (by decide) (by decide) (jn J 71 ((jn J 36 39) - 1))
    refine j_ald (n := 8) (j := (jn J 71 ((jn J 36 39) - 1))) (v := (nI (jn J 57 (jn J 71 ((jn J 36 39) - 1))))) k67_45 hB rfl rfl (by omega) b45.1 ?_
    refine r_icmpltN (by omega) (by omega) k67_46 (fun z46 => ?_) (fun z46 => ?_)
    · refine r_aload k67_61 rfl ?_
      have b62 := ty_f hT (q := 36) (j := 41) (B := 301) (by decide) (by decide)
      refine j_get (j := 41) (v := (nI (jn J 36 41))) k67_62 hB rfl b62.1 ?_
      refine r_pushn (v := nI 300) k67_65 rfl ?_
      refine r_icmpneN (by omega) (by omega) k67_68 (fun z68 => ?_) (fun z68 => ?_)
      · refine r_aload k67_78 rfl ?_
        refine r_dup rfl k67_79 ?_
        have b80 := ty_f hT (q := 36) (j := 41) (B := 301) (by decide) (by decide)
        refine j_get (j := 41) (v := (nI (jn J 36 41))) k67_80 hB rfl b80.1 ?_
        refine r_pushn (v := nI 1) k67_83 rfl ?_
        refine r_iaddN k67_84 ?_
        refine j_put (j := 41) k67_85 hB rfl rfl ?_
        have hT85 : am_ty2 (am_u2 J 36 41 (nI ((jn J 36 41) + 1))) := ty_w hT (tw_f (B := 301) (by decide) (by decide) (by decide) (by omega))
        refine r_aload k67_88 rfl ?_
        refine j_ref (b := 73) k67_89 hB rfl ?_
        refine r_pushn (v := nI 9) k67_92 rfl ?_
        refine r_dup2 rfl rfl k67_94 ?_
        refine j_ald (n := 10) (j := 9) (v := (J 73 9)) k67_95 hB rfl rfl (by omega) rfl ?_
        refine r_pushn (v := nI 1) k67_96 rfl ?_
        refine r_iadd k67_97 ?_
        refine j_ast (n := 10) (j := 9) k67_98 hB rfl rfl (by omega) ?_
        have hT98 : am_ty2 (am_u2 (am_u2 J 36 41 (nI ((jn J 36 41) + 1))) 73 9 ((J 73 9) + (nI 1))) := ty_w hT85 (tw_a (by decide) (by decide) (by decide))
        refine r_aload k67_99 rfl ?_
        refine j_ref (b := 67) k67_100 hB rfl ?_
        refine r_iload k67_103 rfl ?_
        refine r_dup2 rfl rfl k67_104 ?_
        have b105 := ty_n hT (q := 67) (B := 20) (by decide) (by decide) ((jn J 36 39) - 1)
        refine j_ald (n := 320) (j := ((jn J 36 39) - 1)) (v := (nI (jn J 67 ((jn J 36 39) - 1)))) k67_105 hB rfl rfl (by omega) b105.1 ?_
        refine r_pushn (v := nI 1) k67_106 rfl ?_
        refine r_iaddN k67_107 ?_
        refine j_ast (n := 320) (j := ((jn J 36 39) - 1)) k67_108 hB rfl rfl (by omega) ?_
        have hT108 : am_ty2 (am_u2 (am_u2 (am_u2 J 36 41 (nI ((jn J 36 41) + 1))) 73 9 ((J 73 9) + (nI 1))) 67 ((jn J 36 39) - 1) (nI ((jn J 67 ((jn J 36 39) - 1)) + 1))) := ty_w hT98 (tw_n (B := 20) (by decide) (by decide) (by decide) (by omega))
        refine r_aload k67_109 rfl ?_
        refine r_iload k67_110 rfl ?_
        refine r_aload k67_111 rfl ?_
        refine j_ref (b := 55) k67_112 hB rfl ?_
        refine r_pushn (v := nI 8) k67_115 rfl ?_
        refine r_iload k67_117 rfl ?_
        refine r_imulN k67_118 ?_
        refine r_iload k67_119 rfl ?_
        refine r_iaddN k67_120 ?_
        have b121 := ty_n hT (q := 55) (B := 10) (by decide) (by decide) ((8 * (jn J 71 ((jn J 36 39) - 1))) + (jn J 67 ((jn J 36 39) - 1)))
        refine j_ald (n := 64) (j := ((8 * (jn J 71 ((jn J 36 39) - 1))) + (jn J 67 ((jn J 36 39) - 1)))) (v := (nI (jn J 55 ((8 * (jn J 71 ((jn J 36 39) - 1))) + (jn J 67 ((jn J 36 39) - 1)))))) k67_121 hB rfl rfl (by omega) b121.1 ?_
        refine r_aload k67_122 rfl ?_
        refine j_ref (b := 56) k67_123 hB rfl ?_
        refine r_pushn (v := nI 8) k67_126 rfl ?_
        refine r_iload k67_128 rfl ?_
        refine r_imulN k67_129 ?_
        refine r_iload k67_130 rfl ?_
        refine r_iaddN k67_131 ?_
        refine j_ald (n := 64) (j := ((8 * (jn J 71 ((jn J 36 39) - 1))) + (jn J 67 ((jn J 36 39) - 1)))) (v := (J 56 ((8 * (jn J 71 ((jn J 36 39) - 1))) + (jn J 67 ((jn J 36 39) - 1))))) k67_132 hB rfl rfl (by omega) rfl ?_
        refine j_call (ml := 9) k67_133 rfl (show 0 < d.1 by omega) (show 19 + 9 ≤ d.2 by omega) ⟨Nat.le_of_ble_eq_true rfl, Nat.le_of_ble_eq_true rfl, am_obB hB rfl, Nat.le_of_ble_eq_true rfl⟩ rfl (rest := []) rfl (s_R_act hB hT108 ((jn J 36 39) - 1) (jn J 55 ((8 * (jn J 71 ((jn J 36 39) - 1))) + (jn J 67 ((jn J 36 39) - 1)))) (J 56 ((8 * (jn J 71 ((jn J 36 39) - 1))) + (jn J 67 ((jn J 36 39) - 1)))) (by omega) (by omega) (hl) (ht) (hp9) (ha _) (show 6 ≤ d.1 - 1 by omega) (show 141 ≤ d.2 - 28 by omega)) (fun r h1 hq => ?_)
        obtain ⟨rfl, rfl, hT133⟩ := hq
        show am_wp _ _ _ [some (.ref 36), some (.int (nI ((jn J 36 39) - 1))), some (.int (nI (jn J 71 ((jn J 36 39) - 1)))), some (.int (nI (jn J 67 ((jn J 36 39) - 1))))] [.int ((R_act (am_u2 (am_u2 (am_u2 J 36 41 (nI ((jn J 36 41) + 1))) 73 9 ((J 73 9) + (nI 1))) 67 ((jn J 36 39) - 1) (nI ((jn J 67 ((jn J 36 39) - 1)) + 1))) ((jn J 36 39) - 1) (jn J 55 ((8 * (jn J 71 ((jn J 36 39) - 1))) + (jn J 67 ((jn J 36 39) - 1)))) (J 56 ((8 * (jn J 71 ((jn J 36 39) - 1))) + (jn J 67 ((jn J 36 39) - 1))))).1)] _ _
        have e9 : R_work J = ((((R_act (am_u2 (am_u2 (am_u2 J 36 41 (nI ((jn J 36 41) + 1))) 73 9 ((J 73 9) + (nI 1))) 67 ((jn J 36 39) - 1) (nI ((jn J 67 ((jn J 36 39) - 1)) + 1))) ((jn J 36 39) - 1) (jn J 55 ((8 * (jn J 71 ((jn J 36 39) - 1))) + (jn J 67 ((jn J 36 39) - 1)))) (J 56 ((8 * (jn J 71 ((jn J 36 39) - 1))) + (jn J 67 ((jn J 36 39) - 1))))).1), (R_act (am_u2 (am_u2 (am_u2 J 36 41 (nI ((jn J 36 41) + 1))) 73 9 ((J 73 9) + (nI 1))) 67 ((jn J 36 39) - 1) (nI ((jn J 67 ((jn J 36 39) - 1)) + 1))) ((jn J 36 39) - 1) (jn J 55 ((8 * (jn J 71 ((jn J 36 39) - 1))) + (jn J 67 ((jn J 36 39) - 1)))) (J 56 ((8 * (jn J 71 ((jn J 36 39) - 1))) + (jn J 67 ((jn J 36 39) - 1))))).2)) := by unfold R_work; rw [am_ite_f z15, am_ite_t z46, am_ite_f z68]
        exact r_zret k67_136 rfl (zb_R_act) ⟨by rw [e9], by rw [e9], by rw [e9]; exact hT133⟩
      · refine r_aload k67_71 rfl ?_
        refine r_pushn (v := (-11)) k67_72 rfl ?_
        refine j_call (ml := 2) k67_74 rfl (show 0 < d.1 by omega) (show 19 + 2 ≤ d.2 by omega) ⟨Nat.le_of_ble_eq_true rfl, Nat.le_of_ble_eq_true rfl, am_obB hB rfl, Nat.le_of_ble_eq_true rfl⟩ rfl (rest := []) rfl (s_R_stop hB hT ((-11))) (fun r h1 hq => ?_)
        obtain ⟨rfl, rfl, hT74⟩ := hq
        show am_wp _ _ _ [some (.ref 36), some (.int (nI ((jn J 36 39) - 1))), some (.int (nI (jn J 71 ((jn J 36 39) - 1)))), some (.int (nI (jn J 67 ((jn J 36 39) - 1))))] [.int ((R_stop J ((-11))).1)] _ _
        rw [show (R_stop J ((-11))).1 = nI 0 from rfl]
        have e9 : R_work J = (((nI 0), (R_stop J ((-11))).2)) := by unfold R_work; rw [am_ite_f z15, am_ite_t z46, am_ite_t z68]
        exact r_zret k67_77 rfl (by decide) ⟨by rw [e9], by rw [e9], by rw [e9]; exact hT74⟩
    · refine r_aload k67_49 rfl ?_
      refine r_aload k67_50 rfl ?_
      refine j_ref (b := 68) k67_51 hB rfl ?_
      refine r_iload k67_54 rfl ?_
      refine j_ald (n := 320) (j := ((jn J 36 39) - 1)) (v := (J 68 ((jn J 36 39) - 1))) k67_55 hB rfl rfl (by omega) rfl ?_
      refine j_call (ml := 3) k67_56 rfl (show 0 < d.1 by omega) (show 19 + 3 ≤ d.2 by omega) ⟨Nat.le_of_ble_eq_true rfl, Nat.le_of_ble_eq_true rfl, am_obB hB rfl, Nat.le_of_ble_eq_true rfl⟩ rfl (rest := []) rfl (s_R_give hB hT (J 68 ((jn J 36 39) - 1)) (h0) (show 1 ≤ d.1 - 1 by omega) (show 21 ≤ d.2 - 22 by omega)) (fun r h1 hq => ?_)
      obtain ⟨rfl, rfl, hT56⟩ := hq
      show am_wp _ _ _ [some (.ref 36), some (.int (nI ((jn J 36 39) - 1))), some (.int (nI (jn J 71 ((jn J 36 39) - 1)))), some (.int (nI (jn J 67 ((jn J 36 39) - 1))))] [] _ _
      refine r_pushn (v := nI 1) k67_59 rfl ?_
      have e9 : R_work J = (((nI 1), R_give J (J 68 ((jn J 36 39) - 1)))) := by unfold R_work; rw [am_ite_f z15, am_ite_f z46]
      exact r_zret k67_60 rfl (by decide) ⟨by rw [e9], by rw [e9], by rw [e9]; exact hT56⟩
  · refine r_aload k67_18 rfl ?_
    refine r_iload k67_19 rfl ?_
    refine j_call (ml := 5) k67_20 rfl (show 0 < d.1 by omega) (show 19 + 5 ≤ d.2 by omega) ⟨Nat.le_of_ble_eq_true rfl, Nat.le_of_ble_eq_true rfl, am_obB hB rfl, Nat.le_of_ble_eq_true rfl⟩ rfl (rest := []) rfl (s_R_mid hB hT ((jn J 36 39) - 1) (by omega) (hl) (hs9) (ht) (h0) (show 2 ≤ d.1 - 1 by omega) (show 44 ≤ d.2 - 24 by omega)) (fun r h1 hq => ?_)
    obtain ⟨rfl, rfl, hT20⟩ := hq
    show am_wp _ _ _ [some (.ref 36), some (.int (nI ((jn J 36 39) - 1))), none, none] [] _ _
    refine r_pushn (v := nI 1) k67_23 rfl ?_
    have e9 : R_work J = (((nI 1), R_mid J ((jn J 36 39) - 1))) := by unfold R_work; rw [am_ite_t z15]
    exact r_zret k67_24 rfl (by decide) ⟨by rw [e9], by rw [e9], by rw [e9]; exact hT20⟩
theorem fr_R_work {J : Nat → Nat → Int32} (q : Nat) (hq : ¬ q = 36 ∧ ¬ q = 44 ∧ ¬ q = 45 ∧ ¬ q = 46 ∧ ¬ q = 47 ∧ ¬ q = 48 ∧ ¬ q = 58 ∧ ¬ q = 59 ∧ ¬ q = 60 ∧ ¬ q = 61 ∧ ¬ q = 62 ∧ ¬ q = 63 ∧ ¬ q = 64 ∧ ¬ q = 65 ∧ ¬ q = 66 ∧ ¬ q = 67 ∧ ¬ q = 68 ∧ ¬ q = 69 ∧ ¬ q = 70 ∧ ¬ q = 71 ∧ ¬ q = 72 ∧ ¬ q = 73) : (R_work J).2 q = J q := by
  unfold R_work
  refine fr_i2 (fun _ => ?_) (fun _ => ?_)
  · exact fr_R_mid q (by omega)
  · refine fr_i2 (fun _ => ?_) (fun _ => ?_)
    · refine fr_i2 (fun _ => ?_) (fun _ => ?_)
      · exact fr_R_stop q (by omega)
      · exact (fr_R_act q (by omega)).trans ((fr_u (by omega)).trans ((fr_u (by omega)).trans (fr_u (by omega))))
    · exact fr_R_give q (by omega)
theorem zb_R_work {J : Nat → Nat → Int32} : (R_work J).1 &&& 1 = (R_work J).1 := by
  unfold R_work
  refine zb_i (fun _ => ?_) (fun _ => ?_)
  · exact (show (nI 1) &&& 1 = nI 1 by decide)
  · refine zb_i (fun _ => ?_) (fun _ => ?_)
    · refine zb_i (fun _ => ?_) (fun _ => ?_)
      · exact (show (nI 0) &&& 1 = nI 0 by decide)
      · exact zb_R_act
    · exact (show (nI 1) &&& 1 = nI 1 by decide)
