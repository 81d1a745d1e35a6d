/-! Bits of ints. -/
theorem bv_and0 {x b : BitVec 32} (h : x &&& b = 0#32) : x &&& (b ^^^ BitVec.allOnes 32) = x := by
  ext i hi
  have g : (x &&& b)[i] = (0#32)[i] := by rw [h]
  rw [BitVec.getElem_and] at g
  rw [BitVec.getElem_and, BitVec.getElem_xor, BitVec.getElem_allOnes]
  cases hx : x[i] with
  | false => rfl
  | true =>
    rw [hx] at g
    have g2 : b[i] = false := by simpa using g
    rw [g2]; rfl
theorem i_and0 {x b : Int32} (h : x &&& b = 0) : x &&& (b ^^^ (-1)) = x := by
  have h1 : x.toBitVec &&& b.toBitVec = 0#32 := congrArg Int32.toBitVec h
  apply Int32.toBitVec_inj.mp
  exact bv_and0 h1
theorem i_andc {x m c : Int32} (h : x &&& c = 0) : (x &&& m) &&& c = 0 := by
  rw [Int32.and_assoc, Int32.and_comm m c, ← Int32.and_assoc, h, Int32.zero_and]
theorem bv_bit0 {a : BitVec 32} : a &&& 1#32 = 0#32 ↔ a.getLsbD 0 = false := by
  constructor
  · intro h
    have g : (a &&& 1#32).getLsbD 0 = (0#32).getLsbD 0 := by rw [h]
    simpa using g
  · intro h
    ext i hi
    simp
    intro ha
    cases i with
    | zero => simp at h; rw [h] at ha; cases ha
    | succ i => simp
theorem bv_bitk {x : BitVec 32} {k : Nat} (hk : k < 32) : x &&& BitVec.twoPow 32 k = 0#32 ↔ x.getLsbD k = false := by
  rw [BitVec.and_twoPow]
  by_cases h : x.getLsbD k = true
  · rw [if_pos h, h]
    constructor
    · intro z
      have g : (BitVec.twoPow 32 k).getLsbD k = (0#32).getLsbD k := by rw [z]
      simp [hk] at g
    · intro z; cases z
  · rw [if_neg h]
    simp at h
    simp [h]
/-- isIn and the mask say the same -/
theorem i_isin (x : Int32) {k : Nat} (hk : k < 6) : (((x >>> ((nI k) &&& 31)) &&& (nI 1)) = 0) ↔ (x &&& rl_bit k = 0) := by
  have e1 : (x >>> ((nI k) &&& 31)).toBitVec = x.toBitVec.sshiftRight k := by
    rw [bt_31 (by omega)]
    show x.toBitVec.sshiftRight ((nI k).toBitVec.smod 32).toNat = _
    rw [bt_sm (by omega)]
  have e2 : (rl_bit k).toBitVec = BitVec.twoPow 32 k := by
    have h : ∀ k, k < 6 → (rl_bit k).toBitVec = BitVec.twoPow 32 k := by decide
    exact h k hk
  have e3 : (((x >>> ((nI k) &&& 31)) &&& (nI 1)) = 0) ↔ ((x >>> ((nI k) &&& 31)).toBitVec &&& 1#32 = 0#32) := ⟨fun h => congrArg Int32.toBitVec h, fun h => Int32.toBitVec_inj.mp h⟩
  have e4 : (x &&& rl_bit k = 0) ↔ (x.toBitVec &&& (rl_bit k).toBitVec = 0#32) := ⟨fun h => congrArg Int32.toBitVec h, fun h => Int32.toBitVec_inj.mp h⟩
  rw [e3, e4, e1, e2, bv_bit0, bv_bitk (by omega), BitVec.getLsbD_sshiftRight]
  simp
  omega
