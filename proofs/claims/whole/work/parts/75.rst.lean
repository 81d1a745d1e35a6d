/-! The reference's steps, cell by cell. -/
/-- what begin leaves alone -/
def bgO (L L' : Nat → Nat → Int32) : Prop := L' 36 39 = nI (jn L 36 39 + 1) ∧ (∀ j, ¬ j = 39 → L' 36 j = L 36 j) ∧ (∀ q, 64 ≤ q → q ≤ 71 → ∀ j, ¬ j = jn L 36 39 → L' q j = L q j) ∧ (∀ q, ¬ (64 ≤ q ∧ q ≤ 71) → ¬ q = 36 → ¬ q = 73 → L' q = L q) ∧ ∀ j, ¬ j = 4 → L' 73 j = L 73 j
def bgF (L L' : Nat → Nat → Int32) (pl : Nat) : Prop := L' 64 (jn L 36 39) = nI (jn L 36 38 - 1) ∧ L' 66 (jn L 36 39) = nI pl ∧ L' 67 (jn L 36 39) = nI 0 ∧ L' 68 (jn L 36 39) = nI 0 ∧ L' 69 (jn L 36 39) = L 61 (jn L 36 38 - 1) ∧ L' 70 (jn L 36 39) = L 62 (jn L 36 38 - 1)
theorem R_begin_N {L : Nat → Nat → Int32} (hL : am_ty2 L) {kd pl : Nat} (hk : kd = 3 → ¬ pl = mk L (jn L 36 38 - 1) 3) : bgO L (R_begin L kd pl) ∧ bgF L (R_begin L kd pl) pl ∧ R_begin L kd pl 65 (jn L 36 39) = nI kd ∧ R_begin L kd pl 71 (jn L 36 39) = nI (jn L 54 (jn L 59 ((16 * ((4 * ((jn L 36 38) - 1)) + kd)) + pl))) ∧ R_begin L kd pl 73 4 = L 73 4 + nI 1 := by
  have e : R_begin L kd pl = am_u2 (am_u2 (am_u2 (am_u2 (am_u2 (am_u2 (am_u2 (am_u2 (am_u2 (am_u2 L 64 (jn L 36 39) (nI ((jn L 36 38) - 1))) 65 (jn L 36 39) (nI kd)) 66 (jn L 36 39) (nI pl)) 67 (jn L 36 39) (nI 0)) 68 (jn L 36 39) (nI 0)) 69 (jn L 36 39) (nI (jn L 61 ((jn L 36 38) - 1)))) 70 (jn L 36 39) (nI (jn L 62 ((jn L 36 38) - 1)))) 71 (jn L 36 39) (nI (jn L 54 (jn L 59 ((16 * ((4 * ((jn L 36 38) - 1)) + kd)) + pl))))) 73 4 ((L 73 4) + (nI 1))) 36 39 (nI ((jn L 36 39) + 1)) := by
    unfold R_begin
    by_cases z : kd = 3
    · rw [am_ite_t z]; exact am_ite_f (hk z)
    · rw [am_ite_f z]
  rw [e]
  refine ⟨⟨am_u2_s, fun j hj => ?_, fun q a b j hj => ?_, fun q a b c => ?_, fun j hj => ?_⟩, ⟨?_, ?_, ?_, ?_, ?_, ?_⟩, ?_, ?_, ?_⟩
  · rw [u2_ne hj]; rfl
  · rcases (show q = 64 ∨ q = 65 ∨ q = 66 ∨ q = 67 ∨ q = 68 ∨ q = 69 ∨ q = 70 ∨ q = 71 by omega) with rfl | rfl | rfl | rfl | rfl | rfl | rfl | rfl
    · exact (show am_u2 L 64 _ _ 64 j = L 64 j from u2_ne hj)
    · exact (show am_u2 L 65 _ _ 65 j = L 65 j from u2_ne hj)
    · exact (show am_u2 L 66 _ _ 66 j = L 66 j from u2_ne hj)
    · exact (show am_u2 L 67 _ _ 67 j = L 67 j from u2_ne hj)
    · exact (show am_u2 L 68 _ _ 68 j = L 68 j from u2_ne hj)
    · exact (show am_u2 L 69 _ _ 69 j = L 69 j from u2_ne hj)
    · exact (show am_u2 L 70 _ _ 70 j = L 70 j from u2_ne hj)
    · exact (show am_u2 L 71 _ _ 71 j = L 71 j from u2_ne hj)
  · rw [fr_u (by omega), fr_u (by omega), fr_u (by omega), fr_u (by omega), fr_u (by omega), fr_u (by omega), fr_u (by omega), fr_u (by omega), fr_u (by omega), fr_u (by omega)]
  · exact (show am_u2 L 73 4 _ 73 j = L 73 j from u2_ne hj)
  · exact (show am_u2 L 64 _ _ 64 _ = _ from am_u2_s)
  · exact (show am_u2 L 66 _ _ 66 _ = _ from am_u2_s)
  · exact (show am_u2 L 67 _ _ 67 _ = _ from am_u2_s)
  · exact (show am_u2 L 68 _ _ 68 _ = _ from am_u2_s)
  · exact (show am_u2 L 69 _ _ 69 _ = _ from am_u2_s).trans (ty_n hL (q := 61) (B := 12) (by decide) (by decide) _).1.symm
  · exact (show am_u2 L 70 _ _ 70 _ = _ from am_u2_s).trans (ty_n hL (q := 62) (B := 12) (by decide) (by decide) _).1.symm
  · exact (show am_u2 L 65 _ _ 65 _ = _ from am_u2_s)
  · exact (show am_u2 L 71 _ _ 71 _ = _ from am_u2_s)
  · exact (show am_u2 L 73 4 _ 73 4 = _ from am_u2_s)
theorem R_begin_9 {L : Nat → Nat → Int32} (hL : am_ty2 L) {pl : Nat} (hp : pl = mk L (jn L 36 38 - 1) 3) : bgO L (R_begin L 3 pl) ∧ bgF L (R_begin L 3 pl) pl ∧ R_begin L 3 pl 65 (jn L 36 39) = nI 9 ∧ R_begin L 3 pl 73 4 = L 73 4 := by
  have e : R_begin L 3 pl = am_u2 (am_u2 (am_u2 (am_u2 (am_u2 (am_u2 (am_u2 (am_u2 (am_u2 L 64 (jn L 36 39) (nI ((jn L 36 38) - 1))) 65 (jn L 36 39) (nI 3)) 66 (jn L 36 39) (nI pl)) 67 (jn L 36 39) (nI 0)) 68 (jn L 36 39) (nI 0)) 69 (jn L 36 39) (nI (jn L 61 ((jn L 36 38) - 1)))) 70 (jn L 36 39) (nI (jn L 62 ((jn L 36 38) - 1)))) 65 (jn L 36 39) (nI 9)) 36 39 (nI ((jn L 36 39) + 1)) := by
    unfold R_begin
    rw [am_ite_t rfl]
    have x : ∀ q, q < 64 → (am_u2 (am_u2 (am_u2 (am_u2 (am_u2 (am_u2 (am_u2 L 64 (jn L 36 39) (nI ((jn L 36 38) - 1))) 65 (jn L 36 39) (nI 3)) 66 (jn L 36 39) (nI pl)) 67 (jn L 36 39) (nI 0)) 68 (jn L 36 39) (nI 0)) 69 (jn L 36 39) (nI (jn L 61 ((jn L 36 38) - 1)))) 70 (jn L 36 39) (nI (jn L 62 ((jn L 36 38) - 1)))) q = L q := fun q hq => by rw [fr_u (by omega), fr_u (by omega), fr_u (by omega), fr_u (by omega), fr_u (by omega), fr_u (by omega), fr_u (by omega)]
    refine am_ite_t ?_
    rw [jn_cg (x 36 (by decide)), jn_cg (x 60 (by decide))]
    exact hp
  rw [e]
  refine ⟨⟨am_u2_s, fun j hj => ?_, fun q a b j hj => ?_, fun q a b c => ?_, fun j hj => ?_⟩, ⟨?_, ?_, ?_, ?_, ?_, ?_⟩, ?_, ?_⟩
  · rw [u2_ne hj, fr_u (by decide), fr_u (by decide), fr_u (by decide), fr_u (by decide), fr_u (by decide), fr_u (by decide), fr_u (by decide), fr_u (by decide)]
  · rcases (show q = 64 ∨ q = 65 ∨ q = 66 ∨ q = 67 ∨ q = 68 ∨ q = 69 ∨ q = 70 ∨ q = 71 by omega) with rfl | rfl | rfl | rfl | rfl | rfl | rfl | rfl
    · rw [fr_u (by decide), fr_u (by decide), fr_u (by decide), fr_u (by decide), fr_u (by decide), fr_u (by decide), fr_u (by decide), fr_u (by decide), u2_ne hj]
    · rw [show ∀ (A : Nat → Nat → Int32) v, am_u2 A 36 39 v 65 j = A 65 j from fun A v => congrFun (fr_u (by decide)) j, u2_ne hj, fr_u (by decide), fr_u (by decide), fr_u (by decide), fr_u (by decide), fr_u (by decide), u2_ne hj, fr_u (by decide)]
    · rw [fr_u (by decide), fr_u (by decide), fr_u (by decide), fr_u (by decide), fr_u (by decide), fr_u (by decide), u2_ne hj, fr_u (by decide), fr_u (by decide)]
    · rw [fr_u (by decide), fr_u (by decide), fr_u (by decide), fr_u (by decide), fr_u (by decide), u2_ne hj, fr_u (by decide), fr_u (by decide), fr_u (by decide)]
    · rw [fr_u (by decide), fr_u (by decide), fr_u (by decide), fr_u (by decide), u2_ne hj, fr_u (by decide), fr_u (by decide), fr_u (by decide), fr_u (by decide)]
    · rw [fr_u (by decide), fr_u (by decide), fr_u (by decide), u2_ne hj, fr_u (by decide), fr_u (by decide), fr_u (by decide), fr_u (by decide), fr_u (by decide)]
    · rw [fr_u (by decide), fr_u (by decide), u2_ne hj, fr_u (by decide), fr_u (by decide), fr_u (by decide), fr_u (by decide), fr_u (by decide), fr_u (by decide)]
    · exact congrFun (show _ = L 71 by rw [fr_u (by decide), fr_u (by decide), fr_u (by decide), fr_u (by decide), fr_u (by decide), fr_u (by decide), fr_u (by decide), fr_u (by decide), fr_u (by decide)]) j
  · rw [fr_u (by omega), fr_u (by omega), fr_u (by omega), fr_u (by omega), fr_u (by omega), fr_u (by omega), fr_u (by omega), fr_u (by omega), fr_u (by omega)]
  · exact congrFun (show _ = L 73 by rw [fr_u (by decide), fr_u (by decide), fr_u (by decide), fr_u (by decide), fr_u (by decide), fr_u (by decide), fr_u (by decide), fr_u (by decide), fr_u (by decide)]) j
  · rw [fr_u (by decide), fr_u (by decide), fr_u (by decide), fr_u (by decide), fr_u (by decide), fr_u (by decide), fr_u (by decide), fr_u (by decide), am_u2_s]
  · rw [fr_u (by decide), fr_u (by decide), fr_u (by decide), fr_u (by decide), fr_u (by decide), fr_u (by decide), am_u2_s]
  · rw [fr_u (by decide), fr_u (by decide), fr_u (by decide), fr_u (by decide), fr_u (by decide), am_u2_s]
  · rw [fr_u (by decide), fr_u (by decide), fr_u (by decide), fr_u (by decide), am_u2_s]
  · rw [fr_u (by decide), fr_u (by decide), fr_u (by decide), am_u2_s]; exact (ty_n hL (q := 61) (B := 12) (by decide) (by decide) _).1.symm
  · rw [fr_u (by decide), fr_u (by decide), am_u2_s]; exact (ty_n hL (q := 62) (B := 12) (by decide) (by decide) _).1.symm
  · rw [fr_u (by decide), am_u2_s]
  · exact congrFun (show _ = L 73 by rw [fr_u (by decide), fr_u (by decide), fr_u (by decide), fr_u (by decide), fr_u (by decide), fr_u (by decide), fr_u (by decide), fr_u (by decide), fr_u (by decide)]) 4
/-- the middle of a generic, by cases -/
theorem R_mid_B {L : Nat → Nat → Int32} {f : Nat} (h : jn L 67 f < mk L (jn L 36 38 - 1) 1) : R_mid L f = R_begin (am_u2 L 67 f (nI ((jn L 67 f) + 1))) 1 (jn L 67 f) := by
  unfold R_mid
  rw [am_ite_f (by unfold mk at h; omega)]
theorem R_mid_P {L : Nat → Nat → Int32} {f : Nat} (h : jn L 67 f = mk L (jn L 36 38 - 1) 1) : R_mid L f = R_begin (am_u2 L 67 f (nI ((jn L 67 f) + 1))) 0 0 := by
  unfold R_mid
  unfold mk at h
  rw [am_ite_t (by omega), am_ite_t h]
theorem R_mid_A {L : Nat → Nat → Int32} {f : Nat} (h : mk L (jn L 36 38 - 1) 1 < jn L 67 f) (h2 : jn L 67 f ≤ mk L (jn L 36 38 - 1) 1 + mk L (jn L 36 38 - 1) 2) : R_mid L f = R_begin (am_u2 L 67 f (nI ((jn L 67 f) + 1))) 2 (mk L (jn L 36 38 - 1) 2 - (jn L 67 f - mk L (jn L 36 38 - 1) 1)) := by
  unfold R_mid
  unfold mk at h h2 ⊢
  rw [am_ite_t (by omega), am_ite_f (by omega), am_ite_f (by omega)]
theorem R_mid_G {L : Nat → Nat → Int32} {f : Nat} (h2 : mk L (jn L 36 38 - 1) 1 + mk L (jn L 36 38 - 1) 2 < jn L 67 f) : R_mid L f = R_give (am_u2 L 67 f (nI ((jn L 67 f) + 1))) (L 68 f) := by
  unfold R_mid
  unfold mk at h2
  rw [am_ite_t (by omega), am_ite_f (by omega), am_ite_t (by omega)]
theorem R_work_9 {L : Nat → Nat → Int32} (h : jn L 65 (jn L 36 39 - 1) = 9) : R_work L = (nI 1, R_mid L (jn L 36 39 - 1)) := by
  unfold R_work
  rw [am_ite_t h]
theorem R_work_G {L : Nat → Nat → Int32} (h : ¬ jn L 65 (jn L 36 39 - 1) = 9) (h2 : jn L 57 (jn L 71 (jn L 36 39 - 1)) ≤ jn L 67 (jn L 36 39 - 1)) : R_work L = (nI 1, R_give L (L 68 (jn L 36 39 - 1))) := by
  unfold R_work
  rw [am_ite_f h, am_ite_f (by omega)]
theorem R_work_D {L : Nat → Nat → Int32} (h : ¬ jn L 65 (jn L 36 39 - 1) = 9) (h2 : jn L 67 (jn L 36 39 - 1) < jn L 57 (jn L 71 (jn L 36 39 - 1))) (h3 : jn L 36 41 = 300) : R_work L = (nI 0, am_u2 L 36 40 (-11)) := by
  unfold R_work
  rw [am_ite_f h, am_ite_t h2, am_ite_t h3]
  rfl
/-- the store behind the counters of a step -/
def R_s1 (L : Nat → Nat → Int32) : Nat → Nat → Int32 := am_u2 (am_u2 (am_u2 L 36 41 (nI ((jn L 36 41) + 1))) 73 9 ((L 73 9) + (nI 1))) 67 ((jn L 36 39) - 1) (nI ((jn L 67 ((jn L 36 39) - 1)) + 1))
theorem R_work_S {L : Nat → Nat → Int32} (h : ¬ jn L 65 (jn L 36 39 - 1) = 9) (h2 : jn L 67 (jn L 36 39 - 1) < jn L 57 (jn L 71 (jn L 36 39 - 1))) (h3 : ¬ jn L 36 41 = 300) : R_work L = R_act (R_s1 L) ((jn L 36 39) - 1) (jn L 55 ((8 * (jn L 71 ((jn L 36 39) - 1))) + (jn L 67 ((jn L 36 39) - 1)))) (L 56 ((8 * (jn L 71 ((jn L 36 39) - 1))) + (jn L 67 ((jn L 36 39) - 1)))) := by
  unfold R_work
  rw [am_ite_f h, am_ite_t h2, am_ite_f h3]
  rfl
/-- what a frame gives: to none, to a middle that waits for it, to one that does not, to a body -/
theorem R_give_0 {L : Nat → Nat → Int32} {v : Int32} (h : jn L 36 39 - 1 = 0) : R_give L v = am_u2 (am_u2 L 36 39 (nI ((jn L 36 39) - 1))) 36 42 v := by
  unfold R_give
  rw [am_ite_t h]
def R_gv (L : Nat → Nat → Int32) : Nat → Nat → Int32 := am_u2 (am_u2 L 36 39 (nI ((jn L 36 39) - 1))) 36 38 (nI ((jn L 64 (((jn L 36 39) - 1) - 1)) + 1))
theorem R_gv_mk {L : Nat → Nat → Int32} (hL : am_ty2 L) : jn (R_gv L) 60 ((4 * ((jn (R_gv L) 36 38) - 1)) + 1) = mk L (jn L 64 (jn L 36 39 - 1 - 1)) 1 := by
  have b := ty_n hL (q := 64) (B := 12) (by decide) (by decide) (jn L 36 39 - 1 - 1)
  unfold mk
  rw [show jn (R_gv L) 36 38 = jn L 64 (jn L 36 39 - 1 - 1) + 1 from jn_u (by omega), Nat.add_sub_cancel]
  rfl
theorem R_give_M {L : Nat → Nat → Int32} {v : Int32} (hL : am_ty2 L) (h : ¬ jn L 36 39 - 1 = 0) (h9 : jn L 65 (jn L 36 39 - 1 - 1) = 9) (hm : jn L 67 (jn L 36 39 - 1 - 1) = mk L (jn L 64 (jn L 36 39 - 1 - 1)) 1 + 1) : R_give L v = am_u2 (R_gv L) 68 (((jn L 36 39) - 1) - 1) v := by
  unfold R_give
  rw [am_ite_f h, am_ite_t h9]
  exact am_ite_t (hm.trans (congrArg (fun z => z + 1) (R_gv_mk hL).symm))
theorem R_give_N {L : Nat → Nat → Int32} {v : Int32} (hL : am_ty2 L) (h : ¬ jn L 36 39 - 1 = 0) (h9 : jn L 65 (jn L 36 39 - 1 - 1) = 9) (hm : ¬ jn L 67 (jn L 36 39 - 1 - 1) = mk L (jn L 64 (jn L 36 39 - 1 - 1)) 1 + 1) : R_give L v = R_gv L := by
  unfold R_give
  rw [am_ite_f h, am_ite_t h9]
  exact am_ite_f (fun q => hm (q.trans (congrArg (fun z => z + 1) (R_gv_mk hL))))
theorem R_give_B {L : Nat → Nat → Int32} {v : Int32} (h : ¬ jn L 36 39 - 1 = 0) (h9 : ¬ jn L 65 (jn L 36 39 - 1 - 1) = 9) : R_give L v = am_u2 (R_gv L) 68 (((jn L 36 39) - 1) - 1) ((L 68 (((jn L 36 39) - 1) - 1)) + v) := by
  unfold R_give
  rw [am_ite_f h, am_ite_f h9]
  rfl
