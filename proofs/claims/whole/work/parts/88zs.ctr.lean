/-! The constructors. -/
def am_po : List (Nat × Nat × Nat) := [(2, 0, 3), (2, 1, 4), (2, 2, 5), (2, 3, 6), (2, 4, 7), (2, 6, 8), (2, 7, 9), (1, 0, 2), (10, 1, 11), (10, 2, 12), (10, 3, 13), (10, 4, 14), (10, 0, 2), (1, 1, 10), (15, 0, 16), (15, 1, 17), (15, 2, 18), (15, 3, 19), (15, 4, 20), (15, 5, 21), (1, 2, 15), (22, 3, 23), (22, 4, 24), (22, 5, 25), (22, 6, 26), (22, 0, 2), (22, 1, 10), (22, 2, 15), (1, 3, 22), (27, 0, 28), (27, 1, 29), (27, 2, 30), (1, 4, 27), (31, 0, 32), (1, 5, 31), (33, 6, 34), (33, 7, 35), (33, 0, 2), (33, 1, 10), (33, 2, 15), (33, 3, 22), (33, 4, 27), (33, 5, 31), (1, 6, 33), (36, 0, 37), (36, 1, 38), (36, 2, 39), (36, 3, 40), (36, 4, 41), (36, 5, 42), (36, 6, 43), (36, 7, 44), (36, 8, 45), (36, 9, 46), (36, 10, 47), (36, 11, 48), (36, 12, 49), (36, 13, 50), (36, 14, 51), (36, 15, 52), (36, 16, 53), (36, 17, 54), (36, 18, 55), (36, 19, 56), (36, 20, 57), (36, 21, 58), (36, 22, 59), (36, 23, 60), (36, 24, 61), (36, 25, 62), (36, 26, 63), (36, 27, 64), (36, 28, 65), (36, 29, 66), (36, 30, 67), (36, 31, 68), (36, 32, 69), (36, 33, 70), (36, 34, 71), (36, 35, 72), (36, 36, 73)]
def hP (m q j : Nat) : Option Nat := ((am_po.take m).find? (fun t => t.1 == q && t.2.1 == j)).map (fun t => t.2.2)
def hb (L n s : Nat) (J : Nat → Nat → Int32) (m : Nat) : am_H := (n, s, fun q => if 0 < q ∧ q < n then am_bs.getD q (9, 0, 0) else (1, 0, L), J, hP m)
def fil (J : Nat → Nat → Int32) (q k : Nat) : Nat → Nat → Int32 := am_row J q (fun j => if j < k then -1 else 0)
theorem fil_0 {J : Nat → Nat → Int32} {q : Nat} (h : J q = fun _ => 0) : fil J q 0 = J := funext fun a => funext fun b => by
  unfold fil am_row
  by_cases z : a = q
  · rw [if_pos z, z, h]
    exact if_neg (by omega)
  · rw [if_neg z]
theorem fil_s {J : Nat → Nat → Int32} {q k : Nat} : am_u2 (fil J q k) q k (-1) = fil J q (k + 1) := funext fun a => funext fun b => by
  unfold fil am_u2 am_row
  by_cases z : a = q
  · rw [if_pos z, if_pos z]
    by_cases y : b = k
    · rw [if_pos y, if_pos z]; exact (if_pos (show b < k + 1 by omega)).symm
    · rw [if_neg y, if_pos z]
      by_cases w : b < k
      · exact (if_pos w).trans (if_pos (show b < k + 1 by omega)).symm
      · exact (if_neg w).trans (if_neg (show ¬ b < k + 1 by omega)).symm
  · rw [if_neg z, if_neg z, if_neg z]
theorem hP_o {m q j : Nat} (h : ∀ t ∈ am_po.take m, ¬ (t.1 = q ∧ t.2.1 = j)) : hP m q j = none := by
  unfold hP
  have e : (am_po.take m).find? (fun t => t.1 == q && t.2.1 == j) = none := List.find?_eq_none.mpr (fun t ht z => h t ht (by
    rw [Bool.and_eq_true, beq_iff_eq, beq_iff_eq] at z
    exact z))
  rw [e]; rfl
theorem b_sh {L n s m q : Nat} {J : Nat → Nat → Int32} (hc : decide (0 < q ∧ q < n) = true) : am_sh (hb L n s J m) q = am_bs.getD q (9, 0, 0) := if_pos (of_decide_eq_true hc)
theorem b_ln {L n s m q n' : Nat} {J : Nat → Nat → Int32} (hc : decide ((0 < q ∧ q < n) ∧ (am_bs.getD q (9, 0, 0)).2.2 = n') = true) : (am_sh (hb L n s J m) q).2.2 = n' := by
  have h := of_decide_eq_true hc
  rw [b_sh (decide_eq_true h.1)]
  exact h.2
theorem b_ob {L n s m q c : Nat} {J : Nat → Nat → Int32} (hc : decide ((0 < q ∧ q < n) ∧ (am_bs.getD q (9, 0, 0)).1 = 0 ∧ (am_bs.getD q (9, 0, 0)).2.1 = c) = true) : am_ob (hb L n s J m) q c := by
  have h := of_decide_eq_true hc
  refine ⟨h.1.1, h.1.2, ?_, ?_⟩
  · rw [b_sh (decide_eq_true h.1)]; exact h.2.1
  · rw [b_sh (decide_eq_true h.1)]; exact h.2.2
theorem b_ay {L n s m q t : Nat} {J : Nat → Nat → Int32} (hc : decide ((0 < q ∧ q < n) ∧ (am_bs.getD q (9, 0, 0)).1 = t) = true) : am_ay (hb L n s J m) q t := by
  have h := of_decide_eq_true hc
  refine ⟨h.1.1, h.1.2, ?_⟩
  rw [b_sh (decide_eq_true h.1)]; exact h.2
theorem hb_new {L n s m w : Nat} {z : am_S} {J : Nat → Nat → Int32} (hn : 0 < n) (hz : am_bs.getD n (9, 0, 0) = z) (hJ : J n = fun _ => 0) (hp : (am_po.take m).all (fun t => !(t.1 == n)) = true) : am_new (hb L n s J m) z w = hb L (n + 1) (s + w) J m := by
  have e1 : va_up (fun q => if 0 < q ∧ q < n then am_bs.getD q (9, 0, 0) else (1, 0, L)) n z = fun q => if 0 < q ∧ q < n + 1 then am_bs.getD q (9, 0, 0) else (1, 0, L) := funext fun q => by
    by_cases y : q = n
    · rw [y, va_up_self, if_pos (by omega), hz]
    · rw [va_up_ne _ _ y]
      by_cases x : 0 < q ∧ q < n
      · rw [if_pos x, if_pos (by omega)]
      · rw [if_neg x, if_neg (by omega)]
  have e2 : am_row J n (fun _ => 0) = J := funext fun a => funext fun b => by
    unfold am_row
    by_cases y : a = n
    · rw [if_pos y, y, hJ]
    · rw [if_neg y]
  have e3 : am_row (hP m) n (fun _ => none) = hP m := funext fun a => funext fun b => by
    unfold am_row
    by_cases y : a = n
    · rw [if_pos y, y]
      refine (hP_o (fun t ht q => ?_)).symm
      have g := List.all_eq_true.mp hp t ht
      rw [q.1] at g
      simp at g
    · rw [if_neg y]
  show (n + 1, s + w, va_up (fun q => if 0 < q ∧ q < n then am_bs.getD q (9, 0, 0) else (1, 0, L)) n z, am_row J n (fun _ => 0), am_row (hP m) n (fun _ => none)) = _
  rw [e1, e2, e3]
  rfl
theorem hb_wP {L n s m q j v : Nat} {J : Nat → Nat → Int32} (hm : am_po[m]? = some (q, j, v)) (hp : (am_po.take m).all (fun t => !(t.1 == q && t.2.1 == j)) = true) : am_wP (hb L n s J m) q j (some v) = hb L n s J (m + 1) := by
  have e : am_u2 (hP m) q j (some v) = hP (m + 1) := funext fun a => funext fun b => by
    have o : ∀ t ∈ am_po.take m, ¬ (t.1 = q ∧ t.2.1 = j) := fun t ht z => by
      have g := List.all_eq_true.mp hp t ht
      rw [z.1, z.2] at g
      simp at g
    have s1 : hP (m + 1) a b = ((((am_po.take m).find? (fun t => t.1 == a && t.2.1 == b)).or ([(q, j, v)].find? (fun t => t.1 == a && t.2.1 == b)))).map (fun t => t.2.2) := by
      unfold hP
      rw [List.take_add_one, hm, List.find?_append]
      rfl
    rw [s1]
    unfold am_u2
    by_cases y : a = q ∧ b = j
    · rw [if_pos y.1, if_pos y.2]
      have n0 : (am_po.take m).find? (fun t => t.1 == a && t.2.1 == b) = none := List.find?_eq_none.mpr (fun t ht z => o t ht (by
        rw [Bool.and_eq_true, beq_iff_eq, beq_iff_eq, y.1, y.2] at z
        exact z))
      rw [n0, y.1, y.2]
      simp
    · have n1 : [(q, j, v)].find? (fun t => t.1 == a && t.2.1 == b) = none := List.find?_eq_none.mpr (fun t ht z => by
        rw [List.mem_singleton] at ht
        rw [ht, Bool.and_eq_true, beq_iff_eq, beq_iff_eq] at z
        exact y ⟨z.1.symm, z.2.symm⟩)
      rw [n1]
      have e2 : (if a = q then (if b = j then some v else hP m a b) else hP m a b) = hP m a b := by
        by_cases w : a = q
        · rw [if_pos w, if_neg (fun u => y ⟨w, u⟩)]
        · rw [if_neg w]
      rw [e2, Option.or_none]
      rfl
  show (n, s, _, J, am_u2 (hP m) q j (some v)) = _
  rw [e]
  rfl
theorem c_new {d : am_D} {mi pc nx L n s m : Nat} {Lc : am_L} {st : List Value} {J : Nat → Nat → Int32} {Q : Option Value → am_H → Prop} {n1 s1 c : Nat} (hat : am_at mi pc = some (.new c, nx)) (hn : 0 < n) (hz : am_bs.getD n (9, 0, 0) = (0, c, 0)) (hJ : J n = fun _ => 0) (hp : (am_po.take m).all (fun t => !(t.1 == n)) = true) (e1 : n + 1 = n1) (e2 : s + am_nf c = s1) (kk : am_wp d mi nx Lc (.ref n :: st) (hb L n1 s1 J m) Q) : am_wp d mi pc Lc st (hb L n s J m) Q := by
  subst e1; subst e2
  refine r_new hat ?_
  rw [hb_new hn hz hJ hp]
  exact kk
theorem c_newI {d : am_D} {mi pc nx L n s m : Nat} {Lc : am_L} {st : List Value} {J : Nat → Nat → Int32} {Q : Option Value → am_H → Prop} {n1 s1 k : Nat} {v : Int32} (hat : am_at mi pc = some (.newarray .int, nx)) (hv : v = nI k) (hk : k * 4 ≤ 536870912) (hn : 0 < n) (hz : am_bs.getD n (9, 0, 0) = (1, 0, k)) (hJ : J n = fun _ => 0) (hp : (am_po.take m).all (fun t => !(t.1 == n)) = true) (e1 : n + 1 = n1) (e2 : s + k = s1) (kk : am_wp d mi nx Lc (.ref n :: st) (hb L n1 s1 J m) Q) : am_wp d mi pc Lc (.int v :: st) (hb L n s J m) Q := by
  subst e1; subst e2
  refine r_newI hat hv hk ?_
  rw [hb_new hn hz hJ hp]
  exact kk
theorem c_newZ {d : am_D} {mi pc nx L n s m : Nat} {Lc : am_L} {st : List Value} {J : Nat → Nat → Int32} {Q : Option Value → am_H → Prop} {n1 s1 k : Nat} {v : Int32} (hat : am_at mi pc = some (.newarray .boolean, nx)) (hv : v = nI k) (hk : k * 4 ≤ 536870912) (hn : 0 < n) (hz : am_bs.getD n (9, 0, 0) = (3, 0, k)) (hJ : J n = fun _ => 0) (hp : (am_po.take m).all (fun t => !(t.1 == n)) = true) (e1 : n + 1 = n1) (e2 : s + k = s1) (kk : am_wp d mi nx Lc (.ref n :: st) (hb L n1 s1 J m) Q) : am_wp d mi pc Lc (.int v :: st) (hb L n s J m) Q := by
  subst e1; subst e2
  refine r_newZ hat hv hk ?_
  rw [hb_new hn hz hJ hp]
  exact kk
theorem c_newQ {d : am_D} {mi pc nx L n s m : Nat} {Lc : am_L} {st : List Value} {J : Nat → Nat → Int32} {Q : Option Value → am_H → Prop} {n1 s1 k c : Nat} {v : Int32} (hat : am_at mi pc = some (.anewarray c, nx)) (hv : v = nI k) (hk : k * 4 ≤ 536870912) (hn : 0 < n) (hz : am_bs.getD n (9, 0, 0) = (2, c, k)) (hJ : J n = fun _ => 0) (hp : (am_po.take m).all (fun t => !(t.1 == n)) = true) (e1 : n + 1 = n1) (e2 : s + k = s1) (kk : am_wp d mi nx Lc (.ref n :: st) (hb L n1 s1 J m) Q) : am_wp d mi pc Lc (.int v :: st) (hb L n s J m) Q := by
  subst e1; subst e2
  refine r_newQ hat hv hk ?_
  rw [hb_new hn hz hJ hp]
  exact kk
theorem c_putR {d : am_D} {mi pc nx L n s m : Nat} {Lc : am_L} {st : List Value} {J : Nat → Nat → Int32} {Q : Option Value → am_H → Prop} {m1 cf a b : Nat} (hat : am_at mi pc = some (.putfield cf, nx)) (ho : decide ((0 < a ∧ a < n) ∧ (am_bs.getD a (9, 0, 0)).1 = 0 ∧ (am_bs.getD a (9, 0, 0)).2.1 = cf / 64) = true) (hf : cf % 64 < am_nf (cf / 64)) (hr : am_rf (cf / 64) (cf % 64) = true) (hm : am_po[m]? = some (a, cf % 64, b)) (hp : (am_po.take m).all (fun t => !(t.1 == a && t.2.1 == cf % 64)) = true) (e1 : m + 1 = m1) (kk : am_wp d mi nx Lc st (hb L n s J m1) Q) : am_wp d mi pc Lc (.ref b :: .ref a :: st) (hb L n s J m) Q := by
  subst e1
  refine r_putR hat (b_ob ho) hf hr ?_
  rw [hb_wP hm hp]
  exact kk
theorem c_putI {d : am_D} {mi pc nx L n s m : Nat} {Lc : am_L} {st : List Value} {J : Nat → Nat → Int32} {Q : Option Value → am_H → Prop} {cf a : Nat} {x : Int32} (hat : am_at mi pc = some (.putfield cf, nx)) (ho : decide ((0 < a ∧ a < n) ∧ (am_bs.getD a (9, 0, 0)).1 = 0 ∧ (am_bs.getD a (9, 0, 0)).2.1 = cf / 64) = true) (hf : cf % 64 < am_nf (cf / 64)) (hr : am_rf (cf / 64) (cf % 64) = false) (hg : am_lg (cf / 64) (cf % 64) = false) (hn : narrow (am_ty (cf / 64) (cf % 64)) (.int x) = .int x) (hfi : fits (am_ty (cf / 64) (cf % 64)) (.int x) = true) (kk : am_wp d mi nx Lc st (hb L n s (am_u2 J a (cf % 64) x) m) Q) : am_wp d mi pc Lc (.int x :: .ref a :: st) (hb L n s J m) Q := r_putI hat (b_ob ho) hf hr hg hn hfi kk
theorem u2_id {J : Nat → Nat → Int32} {a j : Nat} {x : Int32} (h : J a j = x) : am_u2 J a j x = J := funext fun p => funext fun q => by
  unfold am_u2
  by_cases y : p = a
  · rw [if_pos y]
    by_cases z : q = j
    · rw [if_pos z, y, z, h]
    · rw [if_neg z]
  · rw [if_neg y]
theorem c_put0 {d : am_D} {mi pc nx L n s m : Nat} {Lc : am_L} {st : List Value} {J : Nat → Nat → Int32} {Q : Option Value → am_H → Prop} {cf a : Nat} {x : Int32} (hat : am_at mi pc = some (.putfield cf, nx)) (ho : decide ((0 < a ∧ a < n) ∧ (am_bs.getD a (9, 0, 0)).1 = 0 ∧ (am_bs.getD a (9, 0, 0)).2.1 = cf / 64) = true) (hf : cf % 64 < am_nf (cf / 64)) (hr : am_rf (cf / 64) (cf % 64) = false) (hg : am_lg (cf / 64) (cf % 64) = false) (hn : narrow (am_ty (cf / 64) (cf % 64)) (.int x) = .int x) (hfi : fits (am_ty (cf / 64) (cf % 64)) (.int x) = true) (h0 : J a (cf % 64) = x) (kk : am_wp d mi nx Lc st (hb L n s J m) Q) : am_wp d mi pc Lc (.int x :: .ref a :: st) (hb L n s J m) Q := c_putI hat ho hf hr hg hn hfi (by rw [u2_id h0]; exact kk)
theorem c_getP {d : am_D} {mi pc nx L n s m : Nat} {Lc : am_L} {st : List Value} {J : Nat → Nat → Int32} {Q : Option Value → am_H → Prop} {cf a b : Nat} (hat : am_at mi pc = some (.getfield cf, nx)) (ho : decide ((0 < a ∧ a < n) ∧ (am_bs.getD a (9, 0, 0)).1 = 0 ∧ (am_bs.getD a (9, 0, 0)).2.1 = cf / 64) = true) (hf : cf % 64 < am_nf (cf / 64)) (hr : am_rf (cf / 64) (cf % 64) = true) (hb2 : hP m a (cf % 64) = some b) (kk : am_wp d mi nx Lc (.ref b :: st) (hb L n s J m) Q) : am_wp d mi pc Lc (.ref a :: st) (hb L n s J m) Q := r_getP hat (b_ob ho) hf hr hb2 kk
theorem c_ist {d : am_D} {mi pc nx L n s m : Nat} {Lc : am_L} {st : List Value} {J : Nat → Nat → Int32} {Q : Option Value → am_H → Prop} {a j n' : Nat} {x : Int32} (hat : am_at mi pc = some (.iastore, nx)) (ha : decide ((0 < a ∧ a < n) ∧ (am_bs.getD a (9, 0, 0)).1 = 1) = true) (hl : decide ((0 < a ∧ a < n) ∧ (am_bs.getD a (9, 0, 0)).2.2 = n') = true) (hj : j < n') (hn' : n' < 2 ^ 31) (kk : am_wp d mi nx Lc st (hb L n s (am_u2 J a j x) m) Q) : am_wp d mi pc Lc (.int x :: .int (nI j) :: .ref a :: st) (hb L n s J m) Q := r_ist hat (b_ay ha) (b_ln hl) rfl hj hn' kk
theorem c_zst {d : am_D} {mi pc nx L n s m : Nat} {Lc : am_L} {st : List Value} {J : Nat → Nat → Int32} {Q : Option Value → am_H → Prop} {a j n' : Nat} {x : Int32} (hat : am_at mi pc = some (.bastore, nx)) (ha : decide ((0 < a ∧ a < n) ∧ (am_bs.getD a (9, 0, 0)).1 = 3) = true) (hl : decide ((0 < a ∧ a < n) ∧ (am_bs.getD a (9, 0, 0)).2.2 = n') = true) (hj : j < n') (hn' : n' < 2 ^ 31) (kk : am_wp d mi nx Lc st (hb L n s (am_u2 J a j (vp_nar .boolean x)) m) Q) : am_wp d mi pc Lc (.int x :: .int (nI j) :: .ref a :: st) (hb L n s J m) Q := r_zst hat (b_ay ha) (b_ln hl) rfl hj hn' kk
def Z0 (xs : Nat → Int32) : Nat → Nat → Int32 := fun k => if k = 0 then xs else fun _ => 0
def Z1 (xs : Nat → Int32) : Nat → Nat → Int32 := am_u2 (Z0 xs) 2 5 (nI 1)
def Z2 (xs : Nat → Int32) : Nat → Nat → Int32 := fil (Z1 xs) 3 36
def Z3 (xs : Nat → Int32) : Nat → Nat → Int32 := am_u2 (Z2 xs) 5 0 (nI 1)
def Z4 (xs : Nat → Int32) : Nat → Nat → Int32 := fil (Z3 xs) 17 16
def Z5 (xs : Nat → Int32) : Nat → Nat → Int32 := am_u2 (Z4 xs) 33 13 (-1)
def Z6 (xs : Nat → Int32) : Nat → Nat → Int32 := am_u2 (Z5 xs) 37 0 (nI 1)
def Z7 (xs : Nat → Int32) : Nat → Nat → Int32 := am_u2 (Z6 xs) 40 0 (nI 1)
def Z8 (xs : Nat → Int32) : Nat → Nat → Int32 := fil (Z7 xs) 50 16
def Z9 (xs : Nat → Int32) : Nat → Nat → Int32 := fil (Z8 xs) 38 36
