/-! More rules over nats. -/
section RU2
variable {d : am_D} {mi pc nx : Nat} {L : am_L} {st : List Value} {h : am_H} {Q : Option Value → am_H → Prop}
theorem r_isubN {a b : Nat} (hb : b ≤ a) (hat : am_at mi pc = some (.isub, nx)) (k : am_wp d mi nx L (.int (nI (a - b)) :: st) h Q) : am_wp d mi pc L (.int (nI b) :: .int (nI a) :: st) h Q := r_isub hat (by rw [pk_sub hb]; exact k)
theorem r_iremN {a b : Nat} (ha : a < 2 ^ 31) (h0 : 0 < b) (hb : b < 2 ^ 31) (hat : am_at mi pc = some (.irem, nx)) (k : am_wp d mi nx L (.int (nI (a % b)) :: st) h Q) : am_wp d mi pc L (.int (nI b) :: .int (nI a) :: st) h Q := r_irem (nI_ne0 h0 hb) hat (by rw [pk_rem ha h0 hb]; exact k)
theorem r_minN {a b : Nat} (ha : a < 2 ^ 31) (hb : b < 2 ^ 31) (hat : am_at mi pc = some (.dadd, nx)) (hd : 0 < d.1) (hw : 26 ≤ d.2) (hs : am_sm st) (k : am_wp d mi nx L (.int (nI (min a b)) :: st) h Q) : am_wp d mi pc L (.int (nI b) :: .int (nI a) :: st) h Q := by
  refine r_min hat hd hw hs ?_
  by_cases hc : b < a
  · rw [if_pos ((nI_ltI hb ha).mpr hc)]
    rw [show min a b = b by omega] at k
    exact k
  · rw [if_neg (fun z => hc ((nI_ltI hb ha).mp z))]
    rw [show min a b = a by omega] at k
    exact k
end RU2
