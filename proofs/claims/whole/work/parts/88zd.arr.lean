/-! draw and arrange come to the same. -/
theorem blk_cg {A B : Nat → Int32} {l : Int32} {e x : Nat} (h : ∀ i, i < 3 → B (3 * e + i) = A (3 * e + i)) : ∀ m k la, k + m ≤ 3 → (blk B l e m k la x ↔ blk A l e m k la x) := by
  intro m
  induction m with
  | zero => intro k la _; exact Iff.rfl
  | succ m ih =>
    intro k la hk
    by_cases z : A (3 * e + k) = -1
    · rw [blk_n z, blk_n (by rw [h k (by omega)]; exact z), ih _ _ (by omega)]
    · rw [blk_y z, blk_y (by rw [h k (by omega)]; exact z), h k (by omega), ih _ _ (by omega)]
theorem dir_cg {A B : Nat → Int32} {d e : Nat} (h : ∀ i, i < 3 → B (3 * d + i) = A (3 * d + i)) : dir B d e ↔ dir A d e := by
  constructor
  · rintro ⟨k, a, b, c⟩; rw [h k a] at b c; exact ⟨k, a, b, c⟩
  · rintro ⟨k, a, b, c⟩; rw [← h k a] at b c; exact ⟨k, a, b, c⟩
theorem Rea_cg {A B : Nat → Int32} {c : Nat} (h : ∀ x, Rea A c x → ∀ i, i < 3 → B (3 * x + i) = A (3 * x + i)) : ∀ x, Rea B c x ↔ Rea A c x := fun x => by
  constructor
  · intro r
    exact r (Rea A c) Rea_r (fun y e a b => Rea_s a ((dir_cg (h y a)).mp b))
  · intro r
    have g : Rea A c x ∧ Rea B c x := r (fun y => Rea A c y ∧ Rea B c y) ⟨Rea_r, Rea_r⟩ (fun y e a b => ⟨Rea_s a.1 b, Rea_s a.2 ((dir_cg (h y a.1)).mpr b)⟩)
    exact g.2
def mtc (A : Nat → Int32) (fr : Int32) (b i : Nat) : Prop := ¬ A (3 * b + i) = -1 ∧ hs fr (A (3 * b + i)).toNatClampNeg
theorem nd2_c {J : Nat → Nat → Int32} (hA : tyA (J 3)) {len p b : Nat} {left fr zz : Int32} (T : ∀ a, a < 12 → ((hs left a ∧ (J 9 a &&& left) = 0) ↔ hs fr a)) : ∀ m k, (∃ i, k ≤ i ∧ i < k + m ∧ mtc (J 3) fr b i ∧ C_nd2 len left p b zz m (b * 3 + k) J = nI (J 3 (3 * b + i)).toNatClampNeg) ∨ ((∀ i, k ≤ i → i < k + m → ¬ mtc (J 3) fr b i) ∧ C_nd2 len left p b zz m (b * 3 + k) J = zz) := by
  intro m
  induction m with
  | zero => intro k; rw [C_nd2]; exact Or.inr ⟨fun i a b => by omega, rfl⟩
  | succ m ih =>
    intro k
    rw [C_nd2, show b * 3 + k = 3 * b + k by omega]
    have nx : ¬ mtc (J 3) fr b k → (∃ i, k ≤ i ∧ i < k + (m + 1) ∧ mtc (J 3) fr b i ∧ C_nd2 len left p b zz m (3 * b + k + 1) J = nI (J 3 (3 * b + i)).toNatClampNeg) ∨ ((∀ i, k ≤ i → i < k + (m + 1) → ¬ mtc (J 3) fr b i) ∧ C_nd2 len left p b zz m (3 * b + k + 1) J = zz) := fun n => by
      have g := ih (k + 1)
      rw [show b * 3 + (k + 1) = 3 * b + k + 1 by omega] at g
      rcases g with ⟨i, a, c, d⟩ | ⟨a, c⟩
      · exact Or.inl ⟨i, by omega, by omega, d⟩
      · refine Or.inr ⟨fun i x y => ?_, c⟩
        by_cases e : i = k
        · rw [e]; exact n
        · exact a i (by omega) (by omega)
    by_cases z : J 3 (3 * b + k) = -1
    · rw [am_ite_t z]; exact nx (fun q => q.1 z)
    · have l12 : jn J 3 (3 * b + k) < 12 := tyA_32 hA z
      have t := T _ l12
      rw [am_ite_f z]
      by_cases z1 : w_isin left (nI (jn J 3 (3 * b + k)))
      · rw [am_ite_t z1]
        rw [isin_hs (by omega)] at z1
        by_cases z2 : ((J 9 (jn J 3 (3 * b + k))) &&& left) = 0
        · rw [am_ite_t z2]
          exact Or.inl ⟨k, Nat.le_refl k, by omega, ⟨z, t.mp ⟨z1, z2⟩⟩, rfl⟩
        · rw [am_ite_f z2]
          exact nx (fun q => z2 (t.mpr q.2).2)
      · rw [am_ite_f z1]
        rw [isin_hs (by omega)] at z1
        exact nx (fun q => z1 (t.mpr q.2).1)
theorem x2_c {L : Nat → Nat → Int32} (hA : tyA (L 41)) {c n p b : Nat} {set left fr : Int32} (hb : jn L 42 p = b) : ∀ m k nx, (∃ i, k ≤ i ∧ i < k + m ∧ mtc (L 41) fr b i ∧ R_x2 c set n left fr p m k L nx = nI (L 41 (3 * b + i)).toNatClampNeg) ∨ ((∀ i, k ≤ i → i < k + m → ¬ mtc (L 41) fr b i) ∧ R_x2 c set n left fr p m k L nx = nx) := by
  intro m
  induction m with
  | zero => intro k nx; rw [R_x2]; exact Or.inr ⟨fun i a b => by omega, rfl⟩
  | succ m ih =>
    intro k nx
    rw [R_x2, hb]
    by_cases z : L 41 (3 * b + k) = -1
    · rw [am_ite_t ((tyA_lt hA).mpr z)]
      rcases ih (k + 1) nx with ⟨i, a, c, d⟩ | ⟨a, c⟩
      · exact Or.inl ⟨i, by omega, by omega, d⟩
      · refine Or.inr ⟨fun i x y => ?_, c⟩
        by_cases e : i = k
        · rw [e]; exact fun q => q.1 z
        · exact a i (by omega) (by omega)
    · have l12 : jn L 41 (3 * b + k) < 12 := tyA_32 hA z
      rw [am_ite_f (fun q => z ((tyA_lt hA).mp q))]
      by_cases z1 : ((fr >>> ((nI (jn L 41 (3 * b + k))) &&& 31)) &&& (nI 1)) = (nI 1)
      · rw [am_ite_t z1]
        rw [hs_t1 (by omega)] at z1
        rcases ih (k + 1) (nI (jn L 41 (3 * b + k))) with ⟨i, a, c, d⟩ | ⟨a, c⟩
        · exact Or.inl ⟨i, by omega, by omega, d⟩
        · exact Or.inl ⟨k, Nat.le_refl k, by omega, ⟨z, z1⟩, c⟩
      · rw [am_ite_f z1]
        rw [hs_t1 (by omega)] at z1
        rcases ih (k + 1) nx with ⟨i, a, c, d⟩ | ⟨a, c⟩
        · exact Or.inl ⟨i, by omega, by omega, d⟩
        · refine Or.inr ⟨fun i x y => ?_, c⟩
          by_cases e : i = k
          · rw [e]; exact fun q => z1 q.2
          · exact a i (by omega) (by omega)
theorem x1_n {L : Nat → Nat → Int32} {c n a : Nat} {set left fr : Int32} (ha : a < 12) : ∀ m, R_x1 c set n left fr m L (nI a) = nI a := by
  intro m
  cases m with
  | zero => rw [R_x1]
  | succ m => rw [R_x1, am_ite_t (nI_pos' (by omega))]
theorem srch {J L : Nat → Nat → Int32} {A : Nat → Int32} (hA : tyA A) (e3 : J 3 = A) {c n len : Nat} {set left fr : Int32} (e41 : tyA (L 41) ∧ ∀ x, hs set x → ∀ i, i < 3 → L 41 (3 * x + i) = A (3 * x + i)) (T : ∀ a, a < 12 → ((hs left a ∧ (J 9 a &&& left) = 0) ↔ hs fr a)) : ∀ m, (∀ i, i < m → jn J 8 i = jn L 42 i) → (∀ i, i < m → hs set (jn L 42 i)) → (∀ i, i < m → ∀ j j', j < 3 → j' < 3 → mtc A fr (jn L 42 i) j → mtc A fr (jn L 42 i) j' → A (3 * jn L 42 i + j) = A (3 * jn L 42 i + j')) → R_x1 c set n left fr m L (-1) = C_nd len left m J ∧ ((C_nd len left m J = -1 ∧ ∀ i, i < m → ∀ j, j < 3 → ¬ mtc A fr (jn L 42 i) j) ∨ ∃ a, a < 12 ∧ C_nd len left m J = nI a ∧ hs fr a) := by
  intro m
  induction m with
  | zero => intro _ _ _; rw [C_nd, R_x1]; exact ⟨rfl, Or.inl ⟨rfl, fun i hi => by omega⟩⟩
  | succ m ih =>
    intro hr hin hu
    obtain ⟨q1, q2⟩ := ih (fun i hi => hr i (by omega)) (fun i hi => hin i (by omega)) (fun i hi => hu i (by omega))
    have eb := e41.2 _ (hin m (by omega))
    have mE : ∀ i, i < 3 → (mtc (L 41) fr (jn L 42 m) i ↔ mtc A fr (jn L 42 m) i) := fun i hi => by unfold mtc; rw [eb i hi]
    rw [C_nd, R_x1, am_ite_f (by decide), hr m (by omega)]
    have g1 := nd2_c (J := J) (by rw [e3]; exact hA) (len := len) (p := m) (b := jn L 42 m) (zz := C_nd len left m J) T 3 0
    have g2 := x2_c (L := L) e41.1 (c := c) (n := n) (p := m) (set := set) (left := left) (fr := fr) rfl 3 0 (-1)
    rw [show jn L 42 m * 3 + 0 = jn L 42 m * 3 from rfl, e3] at g1
    rcases g2 with ⟨i, i1, i2, i3, i4⟩ | ⟨n4, i4⟩
    · rw [mE i (by omega)] at i3
      rw [eb i (by omega)] at i4
      rcases g1 with ⟨i', j1, j2, j3, j4⟩ | ⟨n5, j4⟩
      · have ee := hu m (by omega) i i' (by omega) (by omega) i3 j3
        have l12 := tyA_32 hA j3.1
        rw [i4, j4, ee]
        exact ⟨x1_n l12 m, Or.inr ⟨_, l12, rfl, j3.2⟩⟩
      · exact absurd i3 (n5 i i1 i2)
    · have n4 : ∀ i, 0 ≤ i → i < 0 + 3 → ¬ mtc A fr (jn L 42 m) i := fun i a b q => n4 i a b ((mE i (by omega)).mpr q)
      rcases g1 with ⟨i', j1, j2, j3, j4⟩ | ⟨n5, j4⟩
      · exact absurd j3 (n4 i' j1 j2)
      · rw [i4, j4]
        refine ⟨q1, ?_⟩
        rcases q2 with ⟨a, b⟩ | q2
        · left
          refine ⟨a, fun i hi j hj => ?_⟩
          by_cases e : i = m
          · rw [e]; exact n4 j (Nat.zero_le j) (by omega)
          · exact b i (by omega) j hj
        · exact Or.inr q2
/-- what the loop keeps -/
def Ari (A : Nat → Int32) (set : Int32) (c k : Nat) (J L : Nat → Nat → Int32) (left : Int32) : Prop := (J 3 = A ∧ (tyA (L 41) ∧ ∀ x, hs set x → ∀ i, i < 3 → L 41 (3 * x + i) = A (3 * x + i)) ∧ ∀ a, a < 12 → ∀ y, (hs (J 9 a) y ↔ ∃ d, d < 12 ∧ hs set d ∧ bE A 3 (d * 3) (fun z => z = d) a y)) ∧ (∀ i, i < k → J 8 i = L 42 i ∧ L 42 i = nI (jn L 42 i) ∧ hs set (jn L 42 i) ∧ ¬ hs left (jn L 42 i)) ∧ (∀ x, hs left x → hs set x) ∧ (∀ x, hs set x → hs left x ∨ ∃ i, i < k ∧ jn L 42 i = x) ∧ ¬ hs left c ∧ cn_of (hs left) 12 + k ≤ 12 ∧ ∀ d, hs set d → ∀ x, hs set x → ¬ hs left x → ¬ blk A left d 3 0 d x
theorem Ari_T {A : Nat → Int32} {set left : Int32} {c k n : Nat} {J L : Nat → Nat → Int32} (hA : tyA A) (hset : ∀ x, hs set x ↔ Rea A c x) (hc : c < 12) (h : Ari A set c k J L left) : ∀ a, a < 12 → ((hs left a ∧ (J 9 a &&& left) = 0) ↔ hs (R_f1 c set n left 12 0 L left) a) := fun a ha => by
  obtain ⟨⟨e3, e41, e9⟩, r, l1, l2, l3, l4, l5⟩ := h
  rw [f1_c e41.1 12 0 left (by omega)]
  have key : ∀ d, hs set d → ((∃ y, hs left y ∧ bE A 3 (d * 3) (fun z => z = d) a y) ↔ blk A left d 3 0 d a) := fun d hd => by
    have g := bE_blk (A := A) (left := left) (set := set) (d := d) (x := a) 3 0 d (fun z => z = d) (by omega) rfl (fun n y e => by rw [e]; exact n) (fun i hi z => (hset _).mpr (Rea_s ((hset d).mp hd) ⟨i, hi, z, rfl⟩)) (l5 d hd)
    rw [show 3 * d + 0 = d * 3 by omega] at g
    exact g
  constructor
  · rintro ⟨p, q⟩
    refine ⟨p, fun d _ x w b => ?_⟩
    rw [blk_cg (e41.2 d w) 3 0 d (by omega)] at b
    obtain ⟨y, y1, y2⟩ := (key d w).mpr b
    exact (hs_n0.mp q) y (hs_and.mpr ⟨(e9 a ha y).mpr ⟨d, by omega, w, y2⟩, y1⟩)
  · rintro ⟨p, q⟩
    refine ⟨p, hs_0 (fun y b => ?_)⟩
    obtain ⟨b1, b2⟩ := hs_and.mp b
    obtain ⟨d, d1, d2, d3⟩ := (e9 a ha y).mp b1
    exact q d (Nat.zero_le d) (by omega) d2 ((blk_cg (e41.2 d d2) 3 0 d (by omega)).mpr ((key d d2).mp ⟨y, b2, d3⟩))
theorem Ari_u {A : Nat → Int32} {set left fr : Int32} {c k : Nat} {J L : Nat → Nat → Int32} (hA : tyA A) (hset : ∀ x, hs set x ↔ Rea A c x) (hc : c < 12) (h : Ari A set c k J L left) (T : ∀ a, a < 12 → ((hs left a ∧ (J 9 a &&& left) = 0) ↔ hs fr a)) : ∀ b, hs set b → ∀ j j', j < 3 → j' < 3 → mtc A fr b j → mtc A fr b j' → A (3 * b + j) = A (3 * b + j') := fun b hb j j' hj hj' m m' => by
  have lt : ∀ i i', i < i' → i' < 3 → mtc A fr b i → mtc A fr b i' → False := fun i i' x y v v' => by
    have l12 := tyA_32 hA v.1
    have l12' := tyA_32 hA v'.1
    have t := (T _ l12).mpr v.2
    have t' := (T _ l12').mpr v'.2
    have g := bE_i (A := A) (y := (A (3 * b + i)).toNatClampNeg) (j := 3 * b + i') v'.1 3 (3 * b) (fun z => z = b) (by omega) (by omega) (Or.inr ⟨3 * b + i, by omega, by omega, v.1, rfl⟩)
    have b12 := Rea_12 hA hc ((hset b).mp hb)
    rw [show 3 * b = b * 3 by omega] at g
    refine (hs_n0.mp t'.2) _ (hs_and.mpr ⟨(h.1.2.2 _ l12' _).mpr ⟨b, b12, hb, ?_⟩, t.1⟩)
    rw [show 3 * b = b * 3 by omega]
    exact g
  rcases Nat.lt_trichotomy j j' with z | z | z
  · exact (lt j j' z hj' m m').elim
  · rw [z]
  · exact (lt j' j z hj m' m).elim
theorem ar_loop {A : Nat → Int32} {set : Int32} {c : Nat} (hA : tyA A) (hset : ∀ x, hs set x ↔ Rea A c x) (hc : c < 12) : ∀ m k J L left, 1 ≤ k → k + m = 12 → Ari A set c k J L left → (∃ n L', 0 < n ∧ n ≤ 12 ∧ (C_dw m k J left).1 = nI n ∧ R_ar c set m k L left = some (nI n, L') ∧ (∀ i, i < n → (C_dw m k J left).2 8 i = L' 42 i ∧ L' 42 i = nI (jn L' 42 i)) ∧ (∀ x, hs set x ↔ ∃ i, i < n ∧ jn L' 42 i = x) ∧ ∀ q, ¬ q = 42 → L' q = L q) ∨ ((C_dw m k J left).1 = nI 0 ∧ ∃ L', R_ar c set m k L left = some (-1, L') ∧ ∀ q, ¬ q = 42 → L' q = L q) := by
  intro m
  induction m with
  | zero =>
    intro k J L left hk1 hk h
    have h' := h
    obtain ⟨⟨e3, e41, e9⟩, r, l1, l2, l3, l4, l5⟩ := h'
    have l0 : left = 0 := hs_0 (fun d q => by
      have d12 := Rea_12 hA hc ((hset d).mp (l1 d q))
      have := cn_pos (p := hs left) q 12 d12
      omega)
    left
    refine ⟨k, L, hk1, by omega, by rw [C_dw, am_ite_t l0], by rw [R_ar, am_ite_t l0], fun i hi => ?_, fun x => ?_, fun _ _ => rfl⟩
    · rw [C_dw, am_ite_t l0]
      exact ⟨(r i hi).1, (r i hi).2.1⟩
    · constructor
      · intro q
        rcases l2 x q with w | w
        · rw [l0] at w; exact absurd w hs_z
        · exact w
      · rintro ⟨i, a, b⟩
        rw [← b]; exact (r i a).2.2.1
  | succ m ih =>
    intro k J L left hk1 hk h
    have h' := h
    obtain ⟨⟨e3, e41, e9⟩, r, l1, l2, l3, l4, l5⟩ := h'
    by_cases l0 : left = 0
    · left
      refine ⟨k, L, hk1, by omega, by rw [C_dw, am_ite_t l0], by rw [R_ar, am_ite_t l0], fun i hi => ?_, fun x => ?_, fun _ _ => rfl⟩
      · rw [C_dw, am_ite_t l0]
        exact ⟨(r i hi).1, (r i hi).2.1⟩
      · constructor
        · intro q
          rcases l2 x q with w | w
          · rw [l0] at w; exact absurd w hs_z
          · exact w
        · rintro ⟨i, a, b⟩
          rw [← b]; exact (r i a).2.2.1
    · have T := Ari_T (n := k) hA hset hc h
      have f1 : ∀ x, hs (R_f1 c set k left 12 0 L left) x ↔ hs left x ∧ ∀ d, 0 ≤ d → d < 0 + 12 → hs set d → ¬ blk A left d 3 0 d x := fun x => (f1_c (J := L) e41.1 (c := c) (n := k) (x := x) (set := set) (left := left) 12 0 left (by omega)).trans ⟨fun q => ⟨q.1, fun d a b w v => q.2 d a b w ((blk_cg (e41.2 d w) 3 0 d (by omega)).mpr v)⟩, fun q => ⟨q.1, fun d a b w v => q.2 d a b w ((blk_cg (e41.2 d w) 3 0 d (by omega)).mp v)⟩⟩
      have U := Ari_u hA hset hc h T
      have S := srch hA e3 (c := c) (n := k) (len := k) (set := set) e41 T k (fun i hi => by unfold jn; rw [(r i hi).1]) (fun i hi => (r i hi).2.2.1) (fun i hi => U _ (r i hi).2.2.1)
      have nx : C_next J k left = C_nd k left k J := rfl
      rw [C_dw, R_ar, am_ite_f l0, am_ite_f l0, nx]
      generalize R_f1 c set k left 12 0 L left = fr at *
      obtain ⟨s1, s2⟩ := S
      rcases s2 with ⟨s2, s3⟩ | ⟨a, a12, s2, s3⟩
      · -- none is free
        right
        have f0 : fr = 0 := hs_0 (fun a q => by
          obtain ⟨q1, q2⟩ := (f1 a).mp q
          have ra := (hset a).mp (l1 a q1)
          have na : ¬ a = c := fun e => l3 (by rw [← e]; exact q1)
          have ex : a = c ∨ ∃ d, Rea A c d ∧ dir A d a := ra (fun x => x = c ∨ ∃ d, Rea A c d ∧ dir A d x) (Or.inl rfl) (fun x e p w => Or.inr ⟨x, by
            rcases p with p | ⟨d, p1, p2⟩
            · rw [p]; exact Rea_r
            · exact Rea_s p1 p2, w⟩)
          rcases ex with ex | ⟨d, d1, d2⟩
          · exact na ex
          · have hd := (hset d).mpr d1
            have d12 := Rea_12 hA hc d1
            have d2' := d2
            obtain ⟨j, j1, j2, j3⟩ := d2
            have nd : ¬ hs left d := fun w => by
              have a12 : a < 12 := Rea_12 hA hc ra
              have t := (T a a12).mpr q
              have g := bE_i (A := A) (y := d) (j := 3 * d + j) j2 3 (3 * d) (fun z => z = d) (by omega) (by omega) (Or.inl rfl)
              rw [j3, show 3 * d = d * 3 by omega] at g
              exact (hs_n0.mp t.2) d (hs_and.mpr ⟨(e9 a a12 d).mpr ⟨d, d12, hd, g⟩, w⟩)
            rcases l2 d hd with w | ⟨i, i1, i2⟩
            · exact nd w
            · exact s3 i i1 j j1 (by rw [i2]; exact ⟨j2, by rw [j3]; exact q⟩))
        rw [am_ite_t s2, am_ite_t f0]
        exact ⟨rfl, L, rfl, fun _ _ => rfl⟩
      · have nf : ¬ fr = 0 := fun e => by rw [e] at s3; exact hs_z s3
        have jxa : jx (nI a) = a := jx_nI (by omega)
        rw [s2, jxa, am_ite_f (nI_n1 (by omega)), am_ite_f nf, am_ite_f (by omega), s1, s2, am_ite_f (nI_pos (by omega)), jxa]
        obtain ⟨q1, q2⟩ := (f1 a).mp s3
        have cl : ∀ d, hs (left &&& (((nI 1) <<< ((nI a) &&& 31)) ^^^ (-1))) d ↔ hs left d ∧ ¬ d = a := fun d => hs_clr (by omega)
        generalize left &&& (((nI 1) <<< ((nI a) &&& 31)) ^^^ (-1)) = left' at *
        have ja : jn (am_u2 L 42 k (nI a)) 42 k = a := by unfold jn; rw [am_u2_s]; exact nI_clamp (by omega)
        have jo : ∀ i, ¬ i = k → jn (am_u2 L 42 k (nI a)) 42 i = jn L 42 i := fun i hi => by unfold jn; rw [u2_ne hi]
        have inv : Ari A set c (k + 1) (am_u2 J 8 k (nI a)) (am_u2 L 42 k (nI a)) left' := by
          refine ⟨⟨by rw [fr_u (by decide)]; exact e3, by rw [fr_u (by decide)]; exact e41, fun x hx y => by rw [fr_u (by decide)]; exact e9 x hx y⟩, fun i hi => ?_, fun x q => l1 x ((cl x).mp q).1, fun x q => ?_, fun q => l3 ((cl c).mp q).1, ?_, fun d hd x hx nl b => ?_⟩
          · by_cases e : i = k
            · rw [e, am_u2_s, am_u2_s, ja]
              exact ⟨rfl, rfl, l1 a q1, fun q => ((cl a).mp q).2 rfl⟩
            · rw [u2_ne e, u2_ne e, jo i e]
              have ri := r i (by omega)
              exact ⟨ri.1, ri.2.1, ri.2.2.1, fun q => ri.2.2.2 ((cl _).mp q).1⟩
          · by_cases e : x = a
            · exact Or.inr ⟨k, by omega, by rw [ja, e]⟩
            · rcases l2 x q with w | ⟨i, i1, i2⟩
              · exact Or.inl ((cl x).mpr ⟨w, e⟩)
              · exact Or.inr ⟨i, by omega, by rw [jo i (by omega)]; exact i2⟩
          · have := cn_set (p := hs left') (q := hs left) (j := a) (fun q => ((cl a).mp q).2 rfl) q1 12 a12 (fun i _ hi => by rw [cl]; exact ⟨fun q => q.1, fun q => ⟨q, hi⟩⟩)
            omega
          · have b' := blk_m (fun y q => ((cl y).mp q).1) 3 0 d b
            by_cases e : x = a
            · rw [e] at b'
              exact q2 d (Nat.zero_le d) (by have := Rea_12 hA hc ((hset d).mp hd); omega) hd b'
            · exact l5 d hd x hx (fun q => nl ((cl x).mpr ⟨q, e⟩)) b'
        rcases ih (k + 1) _ _ _ (by omega) (by omega) inv with ⟨n, L', g1, g2, g3, g4, g5, g6, g7⟩ | ⟨g1, L', g2, g3⟩
        · exact Or.inl ⟨n, L', g1, g2, g3, g4, g5, g6, fun q hq => (g7 q hq).trans (fr_u hq)⟩
        · exact Or.inr ⟨g1, L', g2, fun q hq => (g3 q hq).trans (fr_u hq)⟩
/-- both come to the same -/
theorem ar_draw {J L : Nat → Nat → Int32} {A : Nat → Int32} {c : Nat} (hA : tyA A) (e3 : J 3 = A) (tyL : tyA (L 41)) (e41 : ∀ x, Rea A c x → ∀ i, i < 3 → L 41 (3 * x + i) = A (3 * x + i)) (hc : c < 12) (acy : ∀ d, Rea A c d → ¬ dir A d c) : (∃ n L', 0 < n ∧ n ≤ 12 ∧ (C_draw J c).1 = nI n ∧ R_arrange L c = some (nI n, L') ∧ (∀ i, i < n → (C_draw J c).2 8 i = L' 42 i ∧ L' 42 i = nI (jn L' 42 i)) ∧ (∀ x, Rea A c x ↔ ∃ i, i < n ∧ jn L' 42 i = x) ∧ ∀ q, ¬ q = 42 → L' q = L q) ∨ ((C_draw J c).1 = nI 0 ∧ ∃ L', R_arrange L c = some (-1, L') ∧ ∀ q, ¬ q = 42 → L' q = L q) := by
  have w1 := above_c (J := J) (by rw [e3]; exact hA) hc
  have w2 := fun x => (a1_all (J := L) tyL hc x).trans (Rea_cg e41 x)
  rw [e3] at w1
  have ee : R_a1 c 12 0 L ((nI 1) <<< ((nI c) &&& 31)) = C_above J c := hs_ext (fun d => (w2 d).trans (w1 d).symm)
  unfold C_draw R_arrange
  rw [ee]
  have nc := fun a (ha : a < 12) y => note_c (J := J) (all := C_above J c) (by rw [e3]; exact hA) (a := a) (y := y) ha
  have f3 : C_note J (C_above J c) 3 = J 3 := fr_C_note 3 (by decide)
  generalize C_above J c = set at *
  have hcs : hs set c := (w1 c).mpr Rea_r
  have n0 : ¬ set = 0 := fun e => by rw [e] at hcs; exact hs_z hcs
  have hfc : hs (R_f1 c set 0 set 12 0 L set) c := (f1_c (J := L) tyL 12 0 set (by omega)).mpr ⟨hcs, fun d _ _ hd b => by
    rw [blk_cg (e41 d ((w1 d).mp hd)) 3 0 d (by omega)] at b
    exact acy d ((w1 d).mp hd) (blk_d 3 0 d (by omega) b)⟩
  have nf : ¬ R_f1 c set 0 set 12 0 L set = 0 := fun e => by rw [e] at hfc; exact hs_z hfc
  have jxc : jx (nI c) = c := jx_nI (by omega)
  rw [R_ar, am_ite_f n0, am_ite_f nf, am_ite_t rfl, R_x1, am_ite_f (nI_pos (by omega)), jxc]
  have cl : ∀ d, hs (set &&& (((nI 1) <<< ((nI c) &&& 31)) ^^^ (-1))) d ↔ hs set d ∧ ¬ d = c := fun d => hs_clr (by omega)
  have jc : jn (am_u2 L 42 0 (nI c)) 42 0 = c := by unfold jn; rw [am_u2_s]; exact nI_clamp (by omega)
  have inv : Ari A set c 1 (am_u2 (C_note J set) 8 0 (nI c)) (am_u2 L 42 0 (nI c)) (set &&& (((nI 1) <<< ((nI c) &&& 31)) ^^^ (-1))) := by
    generalize set &&& (((nI 1) <<< ((nI c) &&& 31)) ^^^ (-1)) = left at *
    refine ⟨⟨by rw [fr_u (by decide), f3]; exact e3, by rw [fr_u (by decide)]; exact ⟨tyL, fun x hx => e41 x ((w1 x).mp hx)⟩, fun a ha y => by rw [fr_u (by decide), nc a ha y, e3]⟩, fun i hi => ?_, fun x q => ((cl x).mp q).1, fun x q => ?_, fun q => ((cl c).mp q).2 rfl, ?_, fun d hd x hx nl b => ?_⟩
    · have e : i = 0 := by omega
      rw [e, am_u2_s, am_u2_s, jc]
      exact ⟨rfl, rfl, hcs, fun q => ((cl c).mp q).2 rfl⟩
    · by_cases e : x = c
      · exact Or.inr ⟨0, by omega, by rw [jc, e]⟩
      · exact Or.inl ((cl x).mpr ⟨q, e⟩)
    · have := cn_set (p := hs left) (q := hs set) (j := c) (fun q => ((cl c).mp q).2 rfl) hcs 12 hc (fun i _ hi => by rw [cl]; exact ⟨fun q => q.1, fun q => ⟨q, hi⟩⟩)
      have := cn_le (p := hs set) 12
      omega
    · have xc : x = c := Classical.byContradiction (fun e => nl ((cl x).mpr ⟨hx, e⟩))
      rw [xc] at b
      exact acy d ((w1 d).mp hd) (blk_d 3 0 d (by omega) b)
  rcases ar_loop hA w1 hc 11 1 _ _ _ (by omega) (by omega) inv with ⟨n, L', g1, g2, g3, g4, g5, g6, g7⟩ | ⟨g1, L', g2, g3⟩
  · exact Or.inl ⟨n, L', g1, g2, g3, g4, g5, fun x => (w1 x).symm.trans (g6 x), fun q hq => (g7 q hq).trans (fr_u hq)⟩
  · exact Or.inr ⟨g1, L', g2, fun q hq => (g3 q hq).trans (fr_u hq)⟩
