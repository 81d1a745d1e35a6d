/-! A frame is opened. -/
/-- the room that the machine's cells take -/
def am_R (h : am_H) : Prop := am_n h ≤ 74 + 2 * cn_of (fun k => ¬ am_P h 23 k = none) 720 + 3 * cn_of (fun l => ¬ am_P h 34 l = none) 12 + cn_of (fun i => ¬ am_P h 35 i = none) 192 ∧ am_sl h ≤ 20000 + 22 * cn_of (fun k => ¬ am_P h 23 k = none) 720 + 28 * cn_of (fun l => ¬ am_P h 34 l = none) 12 + 10 * cn_of (fun i => ¬ am_P h 35 i = none) 192
def opn (h : am_H) (J : Nat → Nat → Int32) (h' : am_H) (J' : Nat → Nat → Int32) (lab lab' : Nat → Nat) (m f w e u place : Nat) : Prop := onf h J h' J' lab m ∧ (am_P h' 35 m = some f ∧ am_P h' f 0 = some w ∧ lab' f = 200 + m ∧ ∀ i, ¬ i = m → am_P h' 35 i = am_P h 35 i) ∧ (am_n h ≤ am_n h' ∧ ∀ q, q < am_n h → lab' q = lab q ∧ am_sh h' q = am_sh h q) ∧ ((∀ q, q < 74 → ¬ q = 33 → J' q = J q) ∧ J' 33 9 = nI (m + 1) ∧ ∀ j, ¬ j = 9 → J' 33 j = J 33 j) ∧ (∀ q, 74 ≤ q → q < am_n h → ¬ q = f → J' q = J q ∧ ∀ j, am_P h' q j = am_P h q j) ∧ (J' f 1 = nI place ∧ J' f 2 = nI (jn J 21 (jn J u place)) ∧ J' f 3 = nI 0 ∧ J' f 4 = nI 0 ∧ J' f 5 = nI 0 ∧ J' f 6 = nI 0) ∧ (¬ place = jn J e 3 → J' f 7 = nI 0 ∧ J' f 8 = nI 0 ∧ J' f 9 = nI 0) ∧ (place = jn J e 3 → J' f 7 = nI (jn J e 2) ∧ J' f 8 = nI (jn J e 3) ∧ J' f 9 = nI 1)
/-- the store of an opened frame -/
def oJ (J : Nat → Nat → Int32) (f : Nat) (x p b a1 a2 a3 : Int32) : Nat → Nat → Int32 := am_u2 (am_u2 (am_u2 (am_u2 (am_u2 (am_u2 (am_u2 (am_u2 (am_u2 (am_u2 J 33 9 x) f 1 p) f 2 b) f 3 (nI 0)) f 4 (nI 0)) f 5 (nI 0)) f 6 (nI 0)) f 7 a1) f 8 a2) f 9 a3
theorem oJ_f {J : Nat → Nat → Int32} {f : Nat} {x p b a1 a2 a3 : Int32} : (oJ J f x p b a1 a2 a3 f 1 = p ∧ oJ J f x p b a1 a2 a3 f 2 = b ∧ oJ J f x p b a1 a2 a3 f 3 = nI 0 ∧ oJ J f x p b a1 a2 a3 f 4 = nI 0 ∧ oJ J f x p b a1 a2 a3 f 5 = nI 0 ∧ oJ J f x p b a1 a2 a3 f 6 = nI 0) ∧ oJ J f x p b a1 a2 a3 f 7 = a1 ∧ oJ J f x p b a1 a2 a3 f 8 = a2 ∧ oJ J f x p b a1 a2 a3 f 9 = a3 := by
  unfold oJ
  refine ⟨⟨?_, ?_, ?_, ?_, ?_, ?_⟩, ?_, ?_, ?_⟩
  · rw [u2_ne (by decide), u2_ne (by decide), u2_ne (by decide), u2_ne (by decide), u2_ne (by decide), u2_ne (by decide), u2_ne (by decide), u2_ne (by decide), am_u2_s]
  · rw [u2_ne (by decide), u2_ne (by decide), u2_ne (by decide), u2_ne (by decide), u2_ne (by decide), u2_ne (by decide), u2_ne (by decide), am_u2_s]
  · rw [u2_ne (by decide), u2_ne (by decide), u2_ne (by decide), u2_ne (by decide), u2_ne (by decide), u2_ne (by decide), am_u2_s]
  · rw [u2_ne (by decide), u2_ne (by decide), u2_ne (by decide), u2_ne (by decide), u2_ne (by decide), am_u2_s]
  · rw [u2_ne (by decide), u2_ne (by decide), u2_ne (by decide), u2_ne (by decide), am_u2_s]
  · rw [u2_ne (by decide), u2_ne (by decide), u2_ne (by decide), am_u2_s]
  · rw [u2_ne (by decide), u2_ne (by decide), am_u2_s]
  · rw [u2_ne (by decide), am_u2_s]
  · rw [am_u2_s]
theorem oJ_o {J : Nat → Nat → Int32} {f q : Nat} {x p b a1 a2 a3 : Int32} (h1 : ¬ q = f) : oJ J f x p b a1 a2 a3 q = am_u2 J 33 9 x q := by
  unfold oJ
  rw [fr_u h1, fr_u h1, fr_u h1, fr_u h1, fr_u h1, fr_u h1, fr_u h1, fr_u h1, fr_u h1]
/-- a frame that is there is opened -/
theorem o_old {d : am_D} {h : am_H} {J : Nat → Nat → Int32} {Q : Option Value → am_H → Prop} {lab : Nat → Nat} {m f w e u place : Nat} (hB : am_B h) (hT : am_ty2 J) (hW : am_W h J lab) (hR : am_R h) (hm : jn J 33 9 = m) (hm9 : m < 192) (hpf : am_P h 35 m = some f) (hw9 : am_ob h w 8) (h77 : 74 ≤ w) (lw : lab w < 200) (hpw : am_P h w 1 = some e) (he : am_ob h e 9) (h74 : 74 ≤ e) (le : 1000 ≤ lab e) (hp0 : am_P h e 0 = some u) (hr : am_ay h u 1) (hrl : (am_sh h u).2.2 = 16) (h75 : 74 ≤ u) (lu : 1000 ≤ lab u) (hE : ef_ok J e u) (hp : place < 16) (hd : 2 ≤ d.1) (hw : 60 ≤ d.2)
    (K : ∀ h' J', am_B h' → am_ty2 J' → am_W h' J' lab → am_R h' → opn h J h' J' lab lab m f w e u place → Q none (am_si h' J')) : am_wp d 148 46 [some (.ref 33), some (.ref w), some (.int (nI place)), none, none, none] [] (am_si h J) Q := by
  obtain ⟨lf, h76, hf⟩ := hW.2.2 m hm9 f hpf
  have n1 : ¬ e = f := fun z => by rw [z] at le; omega
  have n2 : ¬ u = f := fun z => by rw [z] at lu; omega
  have n3 : ¬ w = f := fun z => by rw [z] at lw; omega
  have key : ∀ (a1 a2 a3 b : Int32) J', J' = oJ J f (nI (m + 1)) (nI place) b a1 a2 a3 → b = nI (jn J 21 (jn J u place)) → am_ty2 J' → ((¬ place = jn J e 3 → a1 = nI 0 ∧ a2 = nI 0 ∧ a3 = nI 0) ∧ (place = jn J e 3 → a1 = nI (jn J e 2) ∧ a2 = nI (jn J e 3) ∧ a3 = nI 1)) → Q none (am_si (am_wP h f 0 (some w)) J') := fun a1 a2 a3 b J' eJ eb ty hc => by
    subst eJ
    subst eb
    have of : onf h J (am_wP h f 0 (some w)) (oJ J f (nI (m + 1)) (nI place) (nI (jn J 21 (jn J u place))) a1 a2 a3) lab m := ⟨fun q a _ z => by
      have nf : ¬ q = f := fun z2 => z (by rw [z2]; exact ⟨by omega, by omega⟩)
      exact ⟨by rw [oJ_o nf, fr_u (by omega)], fun j => wP_o nf⟩, fun i _ => wP_o (by omega), fun l => wP_o (by omega), fun k => wP_o (by omega)⟩
    have fo := oJ_f (J := J) (f := f) (x := nI (m + 1)) (p := nI place) (b := nI (jn J 21 (jn J u place))) (a1 := a1) (a2 := a2) (a3 := a3)
    refine K _ _ (B_wP hB (Or.inl h76)) ty (am_W_lo hW (onf_mono of (Nat.zero_le m)) (fun i => wP_o (by omega)) rfl rfl) ?_ ⟨of, ⟨(wP_o (by omega)).trans hpf, wP_s, lf, fun i _ => wP_o (by omega)⟩, ⟨Nat.le_refl _, fun q _ => ⟨rfl, rfl⟩⟩, ⟨fun q a b => by rw [oJ_o (by omega), fr_u b], by rw [oJ_o (by omega), am_u2_s], fun j hj => by rw [oJ_o (by omega), u2_ne hj]⟩, fun q a _ nf => ⟨by rw [oJ_o nf, fr_u (by omega)], fun j => wP_o nf⟩, fo.1, fun z => by rw [fo.2.1, fo.2.2.1, fo.2.2.2]; exact hc.1 z, fun z => by rw [fo.2.1, fo.2.2.1, fo.2.2.2]; exact hc.2 z⟩
    have e1 : ∀ q j, ¬ q = f → am_P (am_wP h f 0 (some w)) q j = am_P h q j := fun q j hq => wP_o hq
    unfold am_R at hR ⊢
    rw [cn_congr (q := fun k => ¬ am_P h 23 k = none) 720 (fun i _ => by rw [e1 23 i (by omega)]), cn_congr (q := fun k => ¬ am_P h 34 k = none) 12 (fun i _ => by rw [e1 34 i (by omega)]), cn_congr (q := fun k => ¬ am_P h 35 k = none) 192 (fun i _ => by rw [e1 35 i (by omega)])]
    exact hR
  refine l_M_open hB hT f w e u place hf h76 (by rw [hm]; exact hpf) (by omega) hw9 hpw he hp0 hr hrl h74 h75 h77 n1 n2 n3 hE hp hd (by omega) (fun z ty => ?_) (fun z ty => ?_)
  · exact key _ _ _ _ _ (by rw [hm]; rfl) rfl ty ⟨fun _ => ⟨rfl, rfl, rfl⟩, fun q => absurd q z⟩
  · exact key _ _ _ _ _ (by rw [hm]; rfl) rfl ty ⟨fun q => absurd z q, fun _ => ⟨rfl, rfl, rfl⟩⟩
/-- a frame is opened: one that is there, or a new one -/
theorem o_frame {d : am_D} {h : am_H} {J : Nat → Nat → Int32} {Q : Option Value → am_H → Prop} {lab : Nat → Nat} {m w e u place : Nat} (hB : am_B h) (hT : am_ty2 J) (hW : am_W h J lab) (hR : am_R h) (hm : jn J 33 9 = m) (hm9 : m < 192) (hw9 : am_ob h w 8) (h77 : 74 ≤ w) (lw : lab w < 200) (hpw : am_P h w 1 = some e) (he : am_ob h e 9) (h74 : 74 ≤ e) (le : 1000 ≤ lab e) (hp0 : am_P h e 0 = some u) (hr : am_ay h u 1) (hrl : (am_sh h u).2.2 = 16) (h75 : 74 ≤ u) (lu : 1000 ≤ lab u) (hE : ef_ok J e u) (hp : place < 16) (hd : 2 ≤ d.1) (hw : 60 ≤ d.2)
    (K : ∀ h' J' lab' f, am_B h' → am_ty2 J' → am_W h' J' lab' → am_R h' → opn h J h' J' lab lab' m f w e u place → Q none (am_si h' J')) : am_wp d 148 0 [some (.ref 33), some (.ref w), some (.int (nI place)), none, none, none] [] (am_si h J) Q := by
  refine l_M_p0 hB hT w place hd (by omega) (fun _ _ => ?_) (fun z _ => by omega)
  cases hpf : am_P h 35 m with
  | some f =>
    refine l_M_p17 hB hT w place f (by omega) (by rw [hm]; exact hpf) hd (by omega) (fun _ => ?_)
    exact o_old hB hT hW hR hm hm9 hpf hw9 h77 lw hpw he h74 le hp0 hr hrl h75 lu hE hp hd hw (fun h' J' a b c r o => K h' J' lab f a b c r o)
  | none =>
    have h0 := hB.1
    refine a_frame hB hT hw9 (by omega) (by rw [hm]; exact hpf) hd hw (fun h2 J2 b2 t2 x2 n2 s2 p2 p3 p4 ob2 z2 => ?_)
    rw [hm] at p2 p3
    -- the labels
    have lb : ∀ q, q < am_n h → (fun q => if q = am_n h then 200 + m else lab q) q = lab q := fun q hq => if_neg (by omega)
    have lbn : (fun q => if q = am_n h then 200 + m else lab q) (am_n h) = 200 + m := if_pos rfl
    generalize (fun q => if q = am_n h then 200 + m else lab q) = lab' at lb lbn
    have pq : ∀ q j, 74 ≤ q → q < am_n h → am_P h2 q j = am_P h q j := fun q j a b => p2 q j b (by omega)
    have of : onf h J h2 J2 lab m := ⟨fun q a b _ => ⟨x2.2.2 q b, fun j => pq q j a b⟩, fun i hi => p2 35 i (by omega) (by omega), fun l => p2 34 l (by omega) (by omega), fun k => p2 23 k (by omega) (by omega)⟩
    have W2 : am_W h2 J2 lab' := by
      refine am_W_ext hW (onf_mono of (Nat.zero_le m)) lb (fun i f hi q => ?_) x2.2.1 (by omega)
      by_cases z : i = m
      · rw [z, p3] at q
        have ef : am_n h = f := Option.some.inj q
        right
        rw [← ef, z]
        exact ⟨lbn, by omega, ob2⟩
      · left
        rw [← p2 35 i (by omega) (by omega)]
        exact q
    have R2 : am_R h2 := by
      have g1 : cn_of (fun k => ¬ am_P h2 23 k = none) 720 = cn_of (fun k => ¬ am_P h 23 k = none) 720 := cn_congr 720 (fun i _ => by rw [p2 23 i (by omega) (by omega)])
      have g2 : cn_of (fun k => ¬ am_P h2 34 k = none) 12 = cn_of (fun k => ¬ am_P h 34 k = none) 12 := cn_congr 12 (fun i _ => by rw [p2 34 i (by omega) (by omega)])
      have g3 : cn_of (fun k => ¬ am_P h2 35 k = none) 192 = cn_of (fun k => ¬ am_P h 35 k = none) 192 + 1 := cn_set (p := fun k => ¬ am_P h 35 k = none) (q := fun k => ¬ am_P h2 35 k = none) (j := m) (fun q => q hpf) (by rw [p3]; exact fun q => by cases q) 192 hm9 (fun i _ hi => by rw [p2 35 i (by omega) (by omega)])
      unfold am_R at hR ⊢
      rw [g1, g2, g3, n2, s2]
      omega
    have j33 : jn J2 33 9 = m := by rw [jn_cg (x2.2.2 33 (by omega))]; exact hm
    have ob : ∀ q c, am_ob h q c → am_ob h2 q c := fun q c z => ⟨z.1, by have := z.2.1; omega, by rw [x2.2.1 q z.2.1]; exact z.2.2.1, by rw [x2.2.1 q z.2.1]; exact z.2.2.2⟩
    have le9 := he.2.1
    have lu9 := hr.2.1
    have lw9 := hw9.2.1
    refine o_old b2 t2 W2 R2 j33 hm9 p3 (ob w 8 hw9) h77 (by rw [lb w lw9]; exact lw) ((pq w 1 h77 lw9).trans hpw) (ob e 9 he) h74 (by rw [lb e le9]; exact le) ((pq e 0 h74 le9).trans hp0) ⟨hr.1, by omega, by rw [x2.2.1 u lu9]; exact hr.2.2⟩ (by rw [x2.2.1 u lu9]; exact hrl) h75 (by rw [lb u lu9]; exact lu) (ef_cg hE (x2.2.2 e le9) (x2.2.2 u lu9)) hp hd hw (fun h' J' B' T' W' R' o => ?_)
    obtain ⟨o1, ⟨o2, o3, o4, o5⟩, ⟨o6, o7⟩, ⟨o8, o9, o10⟩, o11, o12, o13, o14⟩ := o
    have j21 : jn J2 21 (jn J2 u place) = jn J 21 (jn J u place) := by rw [jn_cg (x2.2.2 21 (by omega)), jn_cg (x2.2.2 u lu9)]
    rw [j21] at o12
    rw [jn_cg (x2.2.2 e le9)] at o13 o14
    rw [jn_cg (x2.2.2 e le9)] at o14
    refine K h' J' lab' (am_n h) B' T' W' R' ⟨⟨fun q a b z => ?_, fun i hi => by rw [o5 i (by omega), p2 35 i (by omega) (by omega)], fun l => by rw [o1.2.2.1 l, p2 34 l (by omega) (by omega)], fun k => by rw [o1.2.2.2 k, p2 23 k (by omega) (by omega)]⟩, ⟨o2, o3, o4, fun i hi => by rw [o5 i hi, p2 35 i (by omega) (by omega)]⟩, ⟨by omega, fun q hq => ⟨lb q hq, by rw [(o7 q (by omega)).2, x2.2.1 q hq]⟩⟩, ⟨fun q a b => by rw [o8 q a b, x2.2.2 q (by omega)], o9, fun j hj => by rw [o10 j hj, x2.2.2 33 (by omega)]⟩, fun q a b z => ?_, o12, o13, o14⟩
    · have g := o11 q a (by omega) (by omega)
      exact ⟨by rw [g.1, x2.2.2 q b], fun j => by rw [g.2 j, pq q j a b]⟩
    · have g := o11 q a (by omega) z
      exact ⟨by rw [g.1, x2.2.2 q b], fun j => by rw [g.2 j, pq q j a b]⟩
