/-! The reference's operations, one by one. -/
theorem R_act_0 {J : Nat → Nat → Int32} {f : Nat} {a : Int32} : R_act J f 0 a = (((nI 1), am_u2 J 68 f a)) := by
  unfold R_act
  by_cases z0 : (jn J 65 f) = 0
  · by_cases z1 : ((jn J 66 f) + 1) < (jn J 60 ((4 * ((jn J 36 38) - 1)) + 0))
    · rw [am_ite_t z0, am_ite_t z1, am_ite_t rfl]
    · rw [am_ite_t z0, am_ite_f z1, am_ite_t rfl]
  · by_cases z1 : (jn J 65 f) = 3
    · rw [am_ite_f z0, am_ite_t z1, am_ite_t rfl]
    · rw [am_ite_f z0, am_ite_f z1, am_ite_t rfl]
theorem R_act_1 {J : Nat → Nat → Int32} {f : Nat} {a : Int32} : R_act J f 1 a = (((nI 1), am_u2 J 68 f ((J 68 f) + a))) := by
  unfold R_act
  by_cases z0 : (jn J 65 f) = 0
  · by_cases z1 : ((jn J 66 f) + 1) < (jn J 60 ((4 * ((jn J 36 38) - 1)) + 0))
    · rw [am_ite_t z0, am_ite_t z1, am_ite_f (show ¬ (1 : Nat) = 0 by decide), am_ite_t rfl]
    · rw [am_ite_t z0, am_ite_f z1, am_ite_f (show ¬ (1 : Nat) = 0 by decide), am_ite_t rfl]
  · by_cases z1 : (jn J 65 f) = 3
    · rw [am_ite_f z0, am_ite_t z1, am_ite_f (show ¬ (1 : Nat) = 0 by decide), am_ite_t rfl]
    · rw [am_ite_f z0, am_ite_f z1, am_ite_f (show ¬ (1 : Nat) = 0 by decide), am_ite_t rfl]
theorem R_act_2 {J : Nat → Nat → Int32} {f : Nat} {a : Int32} : R_act J f 2 a = (am_ite ((lg_cmp ((R_get J (nI (jn J 69 f)) a).1) (Int64.ofInt 549755813888)) ≤ 0) (((nI 1), am_u2 ((R_get J (nI (jn J 69 f)) a).2) 68 f ((((R_get J (nI (jn J 69 f)) a).2) 68 f) + (((R_get J (nI (jn J 69 f)) a).1).toInt32)))) (((nI 0), (R_get J (nI (jn J 69 f)) a).2))) := by
  unfold R_act
  by_cases z0 : (jn J 65 f) = 0
  · by_cases z1 : ((jn J 66 f) + 1) < (jn J 60 ((4 * ((jn J 36 38) - 1)) + 0))
    · rw [am_ite_t z0, am_ite_t z1, am_ite_f (show ¬ (2 : Nat) = 0 by decide), am_ite_f (show ¬ (2 : Nat) = 1 by decide), am_ite_t rfl]
    · rw [am_ite_t z0, am_ite_f z1, am_ite_f (show ¬ (2 : Nat) = 0 by decide), am_ite_f (show ¬ (2 : Nat) = 1 by decide), am_ite_t rfl]
  · by_cases z1 : (jn J 65 f) = 3
    · rw [am_ite_f z0, am_ite_t z1, am_ite_f (show ¬ (2 : Nat) = 0 by decide), am_ite_f (show ¬ (2 : Nat) = 1 by decide), am_ite_t rfl]
    · rw [am_ite_f z0, am_ite_f z1, am_ite_f (show ¬ (2 : Nat) = 0 by decide), am_ite_f (show ¬ (2 : Nat) = 1 by decide), am_ite_t rfl]
theorem R_act_3 {J : Nat → Nat → Int32} {f : Nat} {a : Int32} : R_act J f 3 a = (am_ite ((lg_cmp ((R_put J (nI (jn J 69 f)) a (J 68 f)).1) (Int64.ofInt 1)) = 0) (((nI 1), (R_put J (nI (jn J 69 f)) a (J 68 f)).2)) (((nI 0), (R_put J (nI (jn J 69 f)) a (J 68 f)).2))) := by
  unfold R_act
  by_cases z0 : (jn J 65 f) = 0
  · by_cases z1 : ((jn J 66 f) + 1) < (jn J 60 ((4 * ((jn J 36 38) - 1)) + 0))
    · rw [am_ite_t z0, am_ite_t z1, am_ite_f (show ¬ (3 : Nat) = 0 by decide), am_ite_f (show ¬ (3 : Nat) = 1 by decide), am_ite_f (show ¬ (3 : Nat) = 2 by decide), am_ite_t rfl]
    · rw [am_ite_t z0, am_ite_f z1, am_ite_f (show ¬ (3 : Nat) = 0 by decide), am_ite_f (show ¬ (3 : Nat) = 1 by decide), am_ite_f (show ¬ (3 : Nat) = 2 by decide), am_ite_t rfl]
  · by_cases z1 : (jn J 65 f) = 3
    · rw [am_ite_f z0, am_ite_t z1, am_ite_f (show ¬ (3 : Nat) = 0 by decide), am_ite_f (show ¬ (3 : Nat) = 1 by decide), am_ite_f (show ¬ (3 : Nat) = 2 by decide), am_ite_t rfl]
    · rw [am_ite_f z0, am_ite_f z1, am_ite_f (show ¬ (3 : Nat) = 0 by decide), am_ite_f (show ¬ (3 : Nat) = 1 by decide), am_ite_f (show ¬ (3 : Nat) = 2 by decide), am_ite_t rfl]
theorem R_act_4a {J : Nat → Nat → Int32} {f : Nat} {a : Int32} (z0 : (jn J 65 f) = 0) (z1 : ((jn J 66 f) + 1) < (jn J 60 ((4 * ((jn J 36 38) - 1)) + 0))) : R_act J f 4 a = (((nI 1), R_begin J (jn J 65 f) ((jn J 66 f) + 1))) := by
  unfold R_act
  rw [am_ite_t z0, am_ite_t z1, am_ite_f (show ¬ (4 : Nat) = 0 by decide), am_ite_f (show ¬ (4 : Nat) = 1 by decide), am_ite_f (show ¬ (4 : Nat) = 2 by decide), am_ite_f (show ¬ (4 : Nat) = 3 by decide), am_ite_t rfl]
theorem R_act_4b {J : Nat → Nat → Int32} {f : Nat} {a : Int32} (z0 : (jn J 65 f) = 0) (z1 : ¬ (((jn J 66 f) + 1) < (jn J 60 ((4 * ((jn J 36 38) - 1)) + 0)))) : R_act J f 4 a = (((nI 0), (R_stop J ((-10))).2)) := by
  unfold R_act
  rw [am_ite_t z0, am_ite_f z1, am_ite_f (show ¬ (4 : Nat) = 0 by decide), am_ite_f (show ¬ (4 : Nat) = 1 by decide), am_ite_f (show ¬ (4 : Nat) = 2 by decide), am_ite_f (show ¬ (4 : Nat) = 3 by decide), am_ite_t rfl]
theorem R_act_4c {J : Nat → Nat → Int32} {f : Nat} {a : Int32} (z0 : ¬ ((jn J 65 f) = 0)) (z1 : (jn J 65 f) = 3) : R_act J f 4 a = (((nI 1), R_begin J (jn J 65 f) ((jn J 66 f) + 1))) := by
  unfold R_act
  rw [am_ite_f z0, am_ite_t z1, am_ite_f (show ¬ (4 : Nat) = 0 by decide), am_ite_f (show ¬ (4 : Nat) = 1 by decide), am_ite_f (show ¬ (4 : Nat) = 2 by decide), am_ite_f (show ¬ (4 : Nat) = 3 by decide), am_ite_t rfl]
theorem R_act_4d {J : Nat → Nat → Int32} {f : Nat} {a : Int32} (z0 : ¬ ((jn J 65 f) = 0)) (z1 : ¬ ((jn J 65 f) = 3)) : R_act J f 4 a = (((nI 0), (R_stop J ((-10))).2)) := by
  unfold R_act
  rw [am_ite_f z0, am_ite_f z1, am_ite_f (show ¬ (4 : Nat) = 0 by decide), am_ite_f (show ¬ (4 : Nat) = 1 by decide), am_ite_f (show ¬ (4 : Nat) = 2 by decide), am_ite_f (show ¬ (4 : Nat) = 3 by decide), am_ite_t rfl]
theorem R_act_5a {J : Nat → Nat → Int32} {f : Nat} {a : Int32} (z0 : (jn J 65 f) = 0) (z1 : ((jn J 66 f) + 1) < (jn J 60 ((4 * ((jn J 36 38) - 1)) + 0))) : R_act J f 5 a = (((nI 1), am_u2 J 68 f (nI 1))) := by
  unfold R_act
  rw [am_ite_t z0, am_ite_t z1, am_ite_f (show ¬ (5 : Nat) = 0 by decide), am_ite_f (show ¬ (5 : Nat) = 1 by decide), am_ite_f (show ¬ (5 : Nat) = 2 by decide), am_ite_f (show ¬ (5 : Nat) = 3 by decide), am_ite_f (show ¬ (5 : Nat) = 4 by decide), am_ite_t rfl]
theorem R_act_5b {J : Nat → Nat → Int32} {f : Nat} {a : Int32} (z0 : (jn J 65 f) = 0) (z1 : ¬ (((jn J 66 f) + 1) < (jn J 60 ((4 * ((jn J 36 38) - 1)) + 0)))) : R_act J f 5 a = (((nI 1), am_u2 J 68 f (nI 0))) := by
  unfold R_act
  rw [am_ite_t z0, am_ite_f z1, am_ite_f (show ¬ (5 : Nat) = 0 by decide), am_ite_f (show ¬ (5 : Nat) = 1 by decide), am_ite_f (show ¬ (5 : Nat) = 2 by decide), am_ite_f (show ¬ (5 : Nat) = 3 by decide), am_ite_f (show ¬ (5 : Nat) = 4 by decide), am_ite_t rfl]
theorem R_act_5c {J : Nat → Nat → Int32} {f : Nat} {a : Int32} (z0 : ¬ ((jn J 65 f) = 0)) (z1 : (jn J 65 f) = 3) : R_act J f 5 a = (((nI 1), am_u2 J 68 f (nI 1))) := by
  unfold R_act
  rw [am_ite_f z0, am_ite_t z1, am_ite_f (show ¬ (5 : Nat) = 0 by decide), am_ite_f (show ¬ (5 : Nat) = 1 by decide), am_ite_f (show ¬ (5 : Nat) = 2 by decide), am_ite_f (show ¬ (5 : Nat) = 3 by decide), am_ite_f (show ¬ (5 : Nat) = 4 by decide), am_ite_t rfl]
theorem R_act_5d {J : Nat → Nat → Int32} {f : Nat} {a : Int32} (z0 : ¬ ((jn J 65 f) = 0)) (z1 : ¬ ((jn J 65 f) = 3)) : R_act J f 5 a = (((nI 1), am_u2 J 68 f (nI 0))) := by
  unfold R_act
  rw [am_ite_f z0, am_ite_f z1, am_ite_f (show ¬ (5 : Nat) = 0 by decide), am_ite_f (show ¬ (5 : Nat) = 1 by decide), am_ite_f (show ¬ (5 : Nat) = 2 by decide), am_ite_f (show ¬ (5 : Nat) = 3 by decide), am_ite_f (show ¬ (5 : Nat) = 4 by decide), am_ite_t rfl]
theorem R_act_6 {J : Nat → Nat → Int32} {f : Nat} {a : Int32} : R_act J f 6 a = (R_n9 f a ((R_nt f a 19 J))) := by
  unfold R_act
  by_cases z0 : (jn J 65 f) = 0
  · by_cases z1 : ((jn J 66 f) + 1) < (jn J 60 ((4 * ((jn J 36 38) - 1)) + 0))
    · rw [am_ite_t z0, am_ite_t z1, am_ite_f (show ¬ (6 : Nat) = 0 by decide), am_ite_f (show ¬ (6 : Nat) = 1 by decide), am_ite_f (show ¬ (6 : Nat) = 2 by decide), am_ite_f (show ¬ (6 : Nat) = 3 by decide), am_ite_f (show ¬ (6 : Nat) = 4 by decide), am_ite_f (show ¬ (6 : Nat) = 5 by decide), am_ite_t rfl]
    · rw [am_ite_t z0, am_ite_f z1, am_ite_f (show ¬ (6 : Nat) = 0 by decide), am_ite_f (show ¬ (6 : Nat) = 1 by decide), am_ite_f (show ¬ (6 : Nat) = 2 by decide), am_ite_f (show ¬ (6 : Nat) = 3 by decide), am_ite_f (show ¬ (6 : Nat) = 4 by decide), am_ite_f (show ¬ (6 : Nat) = 5 by decide), am_ite_t rfl]
  · by_cases z1 : (jn J 65 f) = 3
    · rw [am_ite_f z0, am_ite_t z1, am_ite_f (show ¬ (6 : Nat) = 0 by decide), am_ite_f (show ¬ (6 : Nat) = 1 by decide), am_ite_f (show ¬ (6 : Nat) = 2 by decide), am_ite_f (show ¬ (6 : Nat) = 3 by decide), am_ite_f (show ¬ (6 : Nat) = 4 by decide), am_ite_f (show ¬ (6 : Nat) = 5 by decide), am_ite_t rfl]
    · rw [am_ite_f z0, am_ite_f z1, am_ite_f (show ¬ (6 : Nat) = 0 by decide), am_ite_f (show ¬ (6 : Nat) = 1 by decide), am_ite_f (show ¬ (6 : Nat) = 2 by decide), am_ite_f (show ¬ (6 : Nat) = 3 by decide), am_ite_f (show ¬ (6 : Nat) = 4 by decide), am_ite_f (show ¬ (6 : Nat) = 5 by decide), am_ite_t rfl]
theorem R_act_7 {J : Nat → Nat → Int32} {f : Nat} {a : Int32} : R_act J f 7 a = (am_ite ((jn J 49 (jx a)) = 0) (((nI 0), (R_stop J ((-2))).2)) (am_ite ((jn J 36 38) = 12) (((nI 0), (R_stop J ((-11))).2)) (am_ite ((jn J 49 (jn J 63 ((jn J 36 38) - 1))) = 2) ((((R_enter J (jx a) (jn J 69 f) (jn J 70 f)).1), (R_enter J (jx a) (jn J 69 f) (jn J 70 f)).2)) ((((R_enter J (jx a) (jn J 69 f) (jn J 69 f)).1), (R_enter J (jx a) (jn J 69 f) (jn J 69 f)).2))))) := by
  unfold R_act
  by_cases z0 : (jn J 65 f) = 0
  · by_cases z1 : ((jn J 66 f) + 1) < (jn J 60 ((4 * ((jn J 36 38) - 1)) + 0))
    · rw [am_ite_t z0, am_ite_t z1, am_ite_f (show ¬ (7 : Nat) = 0 by decide), am_ite_f (show ¬ (7 : Nat) = 1 by decide), am_ite_f (show ¬ (7 : Nat) = 2 by decide), am_ite_f (show ¬ (7 : Nat) = 3 by decide), am_ite_f (show ¬ (7 : Nat) = 4 by decide), am_ite_f (show ¬ (7 : Nat) = 5 by decide), am_ite_f (show ¬ (7 : Nat) = 6 by decide), am_ite_t rfl]
    · rw [am_ite_t z0, am_ite_f z1, am_ite_f (show ¬ (7 : Nat) = 0 by decide), am_ite_f (show ¬ (7 : Nat) = 1 by decide), am_ite_f (show ¬ (7 : Nat) = 2 by decide), am_ite_f (show ¬ (7 : Nat) = 3 by decide), am_ite_f (show ¬ (7 : Nat) = 4 by decide), am_ite_f (show ¬ (7 : Nat) = 5 by decide), am_ite_f (show ¬ (7 : Nat) = 6 by decide), am_ite_t rfl]
  · by_cases z1 : (jn J 65 f) = 3
    · rw [am_ite_f z0, am_ite_t z1, am_ite_f (show ¬ (7 : Nat) = 0 by decide), am_ite_f (show ¬ (7 : Nat) = 1 by decide), am_ite_f (show ¬ (7 : Nat) = 2 by decide), am_ite_f (show ¬ (7 : Nat) = 3 by decide), am_ite_f (show ¬ (7 : Nat) = 4 by decide), am_ite_f (show ¬ (7 : Nat) = 5 by decide), am_ite_f (show ¬ (7 : Nat) = 6 by decide), am_ite_t rfl]
    · rw [am_ite_f z0, am_ite_f z1, am_ite_f (show ¬ (7 : Nat) = 0 by decide), am_ite_f (show ¬ (7 : Nat) = 1 by decide), am_ite_f (show ¬ (7 : Nat) = 2 by decide), am_ite_f (show ¬ (7 : Nat) = 3 by decide), am_ite_f (show ¬ (7 : Nat) = 4 by decide), am_ite_f (show ¬ (7 : Nat) = 5 by decide), am_ite_f (show ¬ (7 : Nat) = 6 by decide), am_ite_t rfl]
theorem R_act_8 {J : Nat → Nat → Int32} {f : Nat} {a : Int32} : R_act J f 8 a = (am_ite (((R_become J (nI (jn J 69 f)) a).1) = (nI 1)) (((nI 1), (R_become J (nI (jn J 69 f)) a).2)) (((nI 0), (R_stop ((R_become J (nI (jn J 69 f)) a).2) ((-2))).2))) := by
  unfold R_act
  by_cases z0 : (jn J 65 f) = 0
  · by_cases z1 : ((jn J 66 f) + 1) < (jn J 60 ((4 * ((jn J 36 38) - 1)) + 0))
    · rw [am_ite_t z0, am_ite_t z1, am_ite_f (show ¬ (8 : Nat) = 0 by decide), am_ite_f (show ¬ (8 : Nat) = 1 by decide), am_ite_f (show ¬ (8 : Nat) = 2 by decide), am_ite_f (show ¬ (8 : Nat) = 3 by decide), am_ite_f (show ¬ (8 : Nat) = 4 by decide), am_ite_f (show ¬ (8 : Nat) = 5 by decide), am_ite_f (show ¬ (8 : Nat) = 6 by decide), am_ite_f (show ¬ (8 : Nat) = 7 by decide), am_ite_t rfl]
    · rw [am_ite_t z0, am_ite_f z1, am_ite_f (show ¬ (8 : Nat) = 0 by decide), am_ite_f (show ¬ (8 : Nat) = 1 by decide), am_ite_f (show ¬ (8 : Nat) = 2 by decide), am_ite_f (show ¬ (8 : Nat) = 3 by decide), am_ite_f (show ¬ (8 : Nat) = 4 by decide), am_ite_f (show ¬ (8 : Nat) = 5 by decide), am_ite_f (show ¬ (8 : Nat) = 6 by decide), am_ite_f (show ¬ (8 : Nat) = 7 by decide), am_ite_t rfl]
  · by_cases z1 : (jn J 65 f) = 3
    · rw [am_ite_f z0, am_ite_t z1, am_ite_f (show ¬ (8 : Nat) = 0 by decide), am_ite_f (show ¬ (8 : Nat) = 1 by decide), am_ite_f (show ¬ (8 : Nat) = 2 by decide), am_ite_f (show ¬ (8 : Nat) = 3 by decide), am_ite_f (show ¬ (8 : Nat) = 4 by decide), am_ite_f (show ¬ (8 : Nat) = 5 by decide), am_ite_f (show ¬ (8 : Nat) = 6 by decide), am_ite_f (show ¬ (8 : Nat) = 7 by decide), am_ite_t rfl]
    · rw [am_ite_f z0, am_ite_f z1, am_ite_f (show ¬ (8 : Nat) = 0 by decide), am_ite_f (show ¬ (8 : Nat) = 1 by decide), am_ite_f (show ¬ (8 : Nat) = 2 by decide), am_ite_f (show ¬ (8 : Nat) = 3 by decide), am_ite_f (show ¬ (8 : Nat) = 4 by decide), am_ite_f (show ¬ (8 : Nat) = 5 by decide), am_ite_f (show ¬ (8 : Nat) = 6 by decide), am_ite_f (show ¬ (8 : Nat) = 7 by decide), am_ite_t rfl]
theorem R_act_9 {J : Nat → Nat → Int32} {f : Nat} {a : Int32} : R_act J f 9 a = (am_ite (2 ≤ (jn J 49 (jn J 63 ((jn J 36 38) - 1)))) (((nI 1), am_u2 (am_u2 J 69 f (nI (jn J 70 f))) 70 f (nI (jn J 69 f)))) (((nI 1), J))) := by
  unfold R_act
  by_cases z0 : (jn J 65 f) = 0
  · by_cases z1 : ((jn J 66 f) + 1) < (jn J 60 ((4 * ((jn J 36 38) - 1)) + 0))
    · rw [am_ite_t z0, am_ite_t z1, am_ite_f (show ¬ (9 : Nat) = 0 by decide), am_ite_f (show ¬ (9 : Nat) = 1 by decide), am_ite_f (show ¬ (9 : Nat) = 2 by decide), am_ite_f (show ¬ (9 : Nat) = 3 by decide), am_ite_f (show ¬ (9 : Nat) = 4 by decide), am_ite_f (show ¬ (9 : Nat) = 5 by decide), am_ite_f (show ¬ (9 : Nat) = 6 by decide), am_ite_f (show ¬ (9 : Nat) = 7 by decide), am_ite_f (show ¬ (9 : Nat) = 8 by decide)]
    · rw [am_ite_t z0, am_ite_f z1, am_ite_f (show ¬ (9 : Nat) = 0 by decide), am_ite_f (show ¬ (9 : Nat) = 1 by decide), am_ite_f (show ¬ (9 : Nat) = 2 by decide), am_ite_f (show ¬ (9 : Nat) = 3 by decide), am_ite_f (show ¬ (9 : Nat) = 4 by decide), am_ite_f (show ¬ (9 : Nat) = 5 by decide), am_ite_f (show ¬ (9 : Nat) = 6 by decide), am_ite_f (show ¬ (9 : Nat) = 7 by decide), am_ite_f (show ¬ (9 : Nat) = 8 by decide)]
  · by_cases z1 : (jn J 65 f) = 3
    · rw [am_ite_f z0, am_ite_t z1, am_ite_f (show ¬ (9 : Nat) = 0 by decide), am_ite_f (show ¬ (9 : Nat) = 1 by decide), am_ite_f (show ¬ (9 : Nat) = 2 by decide), am_ite_f (show ¬ (9 : Nat) = 3 by decide), am_ite_f (show ¬ (9 : Nat) = 4 by decide), am_ite_f (show ¬ (9 : Nat) = 5 by decide), am_ite_f (show ¬ (9 : Nat) = 6 by decide), am_ite_f (show ¬ (9 : Nat) = 7 by decide), am_ite_f (show ¬ (9 : Nat) = 8 by decide)]
    · rw [am_ite_f z0, am_ite_f z1, am_ite_f (show ¬ (9 : Nat) = 0 by decide), am_ite_f (show ¬ (9 : Nat) = 1 by decide), am_ite_f (show ¬ (9 : Nat) = 2 by decide), am_ite_f (show ¬ (9 : Nat) = 3 by decide), am_ite_f (show ¬ (9 : Nat) = 4 by decide), am_ite_f (show ¬ (9 : Nat) = 5 by decide), am_ite_f (show ¬ (9 : Nat) = 6 by decide), am_ite_f (show ¬ (9 : Nat) = 7 by decide), am_ite_f (show ¬ (9 : Nat) = 8 by decide)]
