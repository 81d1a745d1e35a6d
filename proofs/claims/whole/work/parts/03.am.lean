/-! The abstract machine 'am': the bytecode run over a small heap whose cells are numbered in the order of their making. Cell 0 is the script; a cell's shape never changes. Instructions are resolved: branches carry the target, bipush an int, sipush a long, fields class * 64 + place, invokestatic the method's number; caload and saload are the script's element and length, monitorenter is Object.<init>, dadd Math.min, dsub System.arraycopy. -/
abbrev am_S : Type := Nat × Nat × Nat
abbrev am_H : Type := Nat × Nat × (Nat → am_S) × (Nat → Nat → Int32) × (Nat → Nat → Option Nat)
abbrev am_L : Type := List (Option Value)
/-- the room that is left for calls: frames, words of locals -/
abbrev am_D : Type := Nat × Nat
def am_n (h : am_H) : Nat := h.1
def am_sl (h : am_H) : Nat := h.2.1
def am_sh (h : am_H) : Nat → am_S := h.2.2.1
def am_I (h : am_H) : Nat → Nat → Int32 := h.2.2.2.1
def am_P (h : am_H) : Nat → Nat → Option Nat := h.2.2.2.2
def am_u2 {α : Type} (f : Nat → Nat → α) (k j : Nat) (v : α) : Nat → Nat → α := fun a b => if a = k then (if b = j then v else f a b) else f a b
def am_row {α : Type} (f : Nat → Nat → α) (k : Nat) (r : Nat → α) : Nat → Nat → α := fun a b => if a = k then r b else f a b
def am_wI (h : am_H) (k j : Nat) (v : Int32) : am_H := (h.1, h.2.1, h.2.2.1, am_u2 h.2.2.2.1 k j v, h.2.2.2.2)
def am_wP (h : am_H) (k j : Nat) (v : Option Nat) : am_H := (h.1, h.2.1, h.2.2.1, h.2.2.2.1, am_u2 h.2.2.2.2 k j v)
def am_wR (h : am_H) (k : Nat) (r : Nat → Int32) : am_H := (h.1, h.2.1, h.2.2.1, am_row h.2.2.2.1 k r, h.2.2.2.2)
/-- a new cell of shape z with w slots -/
def am_new (h : am_H) (z : am_S) (w : Nat) : am_H := (h.1 + 1, h.2.1 + w, va_up h.2.2.1 h.1 z, am_row h.2.2.2.1 h.1 (fun _ => 0), am_row h.2.2.2.2 h.1 (fun _ => none))
def am_ld (L : am_L) (i : Nat) : Option Value := match L[i]? with
  | some (some v) => some v
  | _ => none
def am_c2 (o : Option (Option Value)) : Bool := match o with
  | some (some v) => v.category == 2
  | _ => false
def am_kl (L : am_L) (i : Nat) : am_L := if i ≠ 0 ∧ am_c2 L[i - 1]? = true then L.set (i - 1) none else L
def am_s1 (L : am_L) (i : Nat) (v : Value) : am_L := (am_kl L i).set i (some v)
def am_s2 (L : am_L) (i : Nat) (v : Value) : am_L := ((am_kl L i).set i (some v)).set (i + 1) none
def am_ix (i : Int32) (n : Nat) : Option Nat := if i < 0 ∨ n ≤ i.toNatClampNeg then none else some i.toNatClampNeg
def am_ii (f : Int32 → Int32 → Int32) (st : List Value) : Option (List Value) := match st with
  | .int y :: .int x :: r => some (.int (f x y) :: r)
  | _ => none
def am_ll (f : Int64 → Int64 → Int64) (st : List Value) : Option (List Value) := match st with
  | .long y :: .long x :: r => some (.long (f x y) :: r)
  | _ => none
/-- what an instruction does to the operand stack alone -/
def am_alu (i : Instr) (st : List Value) : Option (List Value) := match i with
  | .bipush k => some (.int (Int32.ofInt k) :: st)
  | .sipush k => some (.long (Int64.ofInt k) :: st)
  | .aconst_null => some (.null :: st)
  | .iadd => am_ii (fun x y => x + y) st
  | .isub => am_ii (fun x y => x - y) st
  | .imul => am_ii (fun x y => x * y) st
  | .iand => am_ii (fun x y => x &&& y) st
  | .ior => am_ii (fun x y => x ||| y) st
  | .ixor => am_ii (fun x y => x ^^^ y) st
  | .ishl => am_ii (fun x y => x <<< (y &&& 31)) st
  | .ishr => am_ii (fun x y => x >>> (y &&& 31)) st
  | .irem => match st with
    | .int y :: .int x :: r => if y = 0 then none else some (.int (x - x / y * y) :: r)
    | _ => none
  | .idiv => match st with
    | .int y :: .int x :: r => if y = 0 then none else some (.int (x / y) :: r)
    | _ => none
  | .ineg => match st with
    | .int x :: r => some (.int (-x) :: r)
    | _ => none
  | .ladd => am_ll (fun x y => x + y) st
  | .lsub => am_ll (fun x y => x - y) st
  | .i2l => match st with
    | .int x :: r => some (.long x.toInt64 :: r)
    | _ => none
  | .l2i => match st with
    | .long x :: r => some (.int x.toInt32 :: r)
    | _ => none
  | .lcmp => match st with
    | .long y :: .long x :: r => some (.int (lg_cmp x y) :: r)
    | _ => none
  | .dup => match st with
    | v :: r => if v.category = 1 then some (v :: v :: r) else none
    | _ => none
  | .pop => match st with
    | v :: r => if v.category = 1 then some r else none
    | _ => none
  | .dup_x1 => match st with
    | v :: w :: r => if v.category = 1 ∧ w.category = 1 then some (v :: w :: v :: r) else none
    | _ => none
  | .dup_x2 => match st with
    | v :: w :: u :: r => if v.category = 1 ∧ w.category = 1 ∧ u.category = 1 then some (v :: w :: u :: v :: r) else none
    | _ => none
  | .dup2 => match st with
    | v :: w :: r => if v.category = 1 ∧ w.category = 1 then some (v :: w :: v :: w :: r) else none
    | _ => none
  | _ => none
def am_cond (c : ClassFile.Cond) (x : Int32) (y : Int32) : Prop := match c with
  | .eq => x = y
  | .ne => ¬ x = y
  | .lt => x < y
  | .ge => y ≤ x
  | .gt => y < x
  | .le => x ≤ y
noncomputable def am_if (c : Prop) (a b : Nat) : Nat := @ite Nat c (Classical.propDecidable c) a b
theorem am_if_t {c : Prop} {a b : Nat} (h : c) : am_if c a b = a := by unfold am_if; exact if_pos h
theorem am_if_f {c : Prop} {a b : Nat} (h : ¬ c) : am_if c a b = b := by unfold am_if; exact if_neg h
def am_nul (v : Value) : Option Bool := match v with
  | .null => some true
  | .ref _ => some false
  | _ => none
/-- branches: where they go, and the operand stack -/
noncomputable def am_br (i : Instr) (nx : Nat) (st : List Value) : Option (Nat × List Value) := match i with
  | .ifCond c t => match st with
    | .int x :: r => some (am_if (am_cond c x 0) t.toNat nx, r)
    | _ => none
  | .if_icmp c t => match st with
    | .int y :: .int x :: r => some (am_if (am_cond c x y) t.toNat nx, r)
    | _ => none
  | .goto t => some (t.toNat, st)
  | .ifnull t => match st with
    | .null :: r => some (t.toNat, r)
    | .ref _ :: r => some (nx, r)
    | _ => none
  | .ifnonnull t => match st with
    | .null :: r => some (nx, r)
    | .ref _ :: r => some (t.toNat, r)
    | _ => none
  | .tableswitch d lo hi offs => match st with
    | .int x :: r => if x.toInt < lo ∨ hi < x.toInt then some (d.toNat, r) else match offs[(x.toInt - lo).toNat]? with
      | some t => some (t.toNat, r)
      | none => none
    | _ => none
  | _ => none
/-- loads and stores of locals -/
def am_lo (i : Instr) (L : am_L) (st : List Value) : Option (am_L × List Value) := match i with
  | .iload k => match am_ld L k with
    | some (.int x) => some (L, .int x :: st)
    | _ => none
  | .lload k => match am_ld L k with
    | some (.long x) => some (L, .long x :: st)
    | _ => none
  | .aload k => match am_ld L k with
    | some (.ref x) => some (L, .ref x :: st)
    | some .null => some (L, .null :: st)
    | _ => none
  | .istore k => match st with
    | .int x :: r => if k < L.length then some (am_s1 L k (.int x), r) else none
    | _ => none
  | .astore k => match st with
    | .ref x :: r => if k < L.length then some (am_s1 L k (.ref x), r) else none
    | .null :: r => if k < L.length then some (am_s1 L k .null, r) else none
    | _ => none
  | .lstore k => match st with
    | .long x :: r => if k + 1 < L.length then some (am_s2 L k (.long x), r) else none
    | _ => none
  | .iinc k n => match am_ld L k with
    | some (.int x) => if k < L.length then some (am_s1 L k (.int (x + Int32.ofInt n)), st) else none
    | _ => none
  | _ => none
def am_nf (c : Nat) : Nat := match am_cl[c]? with
  | some q => q.2.2
  | none => 0
def am_rf (c j : Nat) : Bool := match am_ty c j with
  | .object _ => true
  | .array _ => true
  | _ => false
abbrev am_ob (h : am_H) (q c : Nat) : Prop := 0 < q ∧ q < am_n h ∧ (am_sh h q).1 = 0 ∧ (am_sh h q).2.1 = c
abbrev am_ay (h : am_H) (q t : Nat) : Prop := 0 < q ∧ q < am_n h ∧ (am_sh h q).1 = t
abbrev am_sm (st : List Value) : Prop := (st.map fun v => v.category).sum ≤ 8
def am_lg (c j : Nat) : Bool := match am_ty c j with
  | .long => true
  | _ => false
/-- the value of a field; a long field holds an int's value -/
def am_gv (h : am_H) (q c j : Nat) : Value := if am_rf c j = true then va_rf (am_P h q j) else if am_lg c j = true then .long (am_I h q j).toInt64 else .int (am_I h q j)
def am_pv (h : am_H) (q c j : Nat) (v : Value) : Option am_H := match v with
  | .long x => if am_rf c j = false ∧ am_lg c j = true ∧ x.toInt32.toInt64 = x then some (am_wI h q j x.toInt32) else none
  | .int x => if am_rf c j = false ∧ am_lg c j = false ∧ narrow (am_ty c j) (.int x) = .int x ∧ fits (am_ty c j) (.int x) = true then some (am_wI h q j x) else none
  | .ref y => if am_rf c j = true then some (am_wP h q j (some y)) else none
  | .null => if am_rf c j = true then some (am_wP h q j none) else none
  | _ => none
def am_xg (cf : Nat) (st : List Value) (h : am_H) : Option (List Value × am_H) := match st with
  | .ref q :: r => if am_ob h q (cf / 64) ∧ cf % 64 < am_nf (cf / 64) then some (am_gv h q (cf / 64) (cf % 64) :: r, h) else none
  | _ => none
def am_xp (cf : Nat) (st : List Value) (h : am_H) : Option (List Value × am_H) := match st with
  | v :: .ref q :: r => if am_ob h q (cf / 64) ∧ cf % 64 < am_nf (cf / 64) then (am_pv h q (cf / 64) (cf % 64) v).map (fun h' => (r, h')) else none
  | _ => none
/-- a load of an int or boolean array -/
def am_xl (t : Nat) (st : List Value) (h : am_H) : Option (List Value × am_H) := match st with
  | .int i :: .ref q :: r => if am_ay h q t then (am_ix i (am_sh h q).2.2).map (fun j => (.int (am_I h q j) :: r, h)) else none
  | _ => none
def am_xs (st : List Value) (h : am_H) : Option (List Value × am_H) := match st with
  | .int x :: .int i :: .ref q :: r => if am_ay h q 1 then (am_ix i (am_sh h q).2.2).map (fun j => (r, am_wI h q j x)) else none
  | _ => none
def am_xz (st : List Value) (h : am_H) : Option (List Value × am_H) := match st with
  | .int x :: .int i :: .ref q :: r => if am_ay h q 3 then (am_ix i (am_sh h q).2.2).map (fun j => (r, am_wI h q j (vp_nar .boolean x))) else none
  | _ => none
def am_xa (st : List Value) (h : am_H) : Option (List Value × am_H) := match st with
  | .int i :: .ref q :: r => if am_ay h q 2 then (am_ix i (am_sh h q).2.2).map (fun j => (va_rf (am_P h q j) :: r, h)) else none
  | _ => none
def am_xt (st : List Value) (h : am_H) : Option (List Value × am_H) := match st with
  | .ref v :: .int i :: .ref q :: r => if am_ay h q 2 ∧ am_ob h v (am_sh h q).2.1 then (am_ix i (am_sh h q).2.2).map (fun j => (r, am_wP h q j (some v))) else none
  | .null :: .int i :: .ref q :: r => if am_ay h q 2 then (am_ix i (am_sh h q).2.2).map (fun j => (r, am_wP h q j none)) else none
  | _ => none
def am_xn (st : List Value) (h : am_H) : Option (List Value × am_H) := match st with
  | .ref q :: r => if 0 < q ∧ q < am_n h ∧ ¬ (am_sh h q).1 = 0 then some (.int (Int32.ofNat (am_sh h q).2.2) :: r, h) else none
  | _ => none
def am_xw (t : Option Nat) (st : List Value) (h : am_H) : Option (List Value × am_H) := match st with
  | .int n :: r => if ¬ n < 0 ∧ n.toNatClampNeg * 4 ≤ 536870912 then t.map (fun k => (.ref (am_n h) :: r, am_new h (k, 0, n.toNatClampNeg) n.toNatClampNeg)) else none
  | _ => none
def am_xq (c : Nat) (st : List Value) (h : am_H) : Option (List Value × am_H) := match st with
  | .int n :: r => if ¬ n < 0 ∧ n.toNatClampNeg * 4 ≤ 536870912 then some (.ref (am_n h) :: r, am_new h (2, c, n.toNatClampNeg) n.toNatClampNeg) else none
  | _ => none
def am_xc (st : List Value) (h : am_H) : Option (List Value × am_H) := match st with
  | .int i :: .ref 0 :: r => (am_ix i (am_sh h 0).2.2).map (fun j => (.int (am_I h 0 j) :: r, h))
  | _ => none
def am_xe (st : List Value) (h : am_H) : Option (List Value × am_H) := match st with
  | .ref 0 :: r => some (.int (Int32.ofNat (am_sh h 0).2.2) :: r, h)
  | _ => none
def am_xo (d : am_D) (st : List Value) (h : am_H) : Option (List Value × am_H) := match st with
  | .ref _ :: r => if 0 < d.1 ∧ 26 ≤ d.2 ∧ am_sm r then some (r, h) else none
  | _ => none
def am_xm (d : am_D) (st : List Value) (h : am_H) : Option (List Value × am_H) := match st with
  | .int y :: .int x :: r => if 0 < d.1 ∧ 26 ≤ d.2 ∧ am_sm r then some (.int (if y < x then y else x) :: r, h) else none
  | _ => none
abbrev am_yc (d : am_D) (h : am_H) (n dp sp : Int32) (a a0 : Nat) (r : List Value) : Prop := 0 < d.1 ∧ 26 ≤ d.2 ∧ am_sm r ∧ am_ay h a 1 ∧ am_ay h a0 1 ∧ ¬ sp < 0 ∧ ¬ dp < 0 ∧ ¬ n < 0 ∧ sp.toNatClampNeg + n.toNatClampNeg ≤ (am_sh h a0).2.2 ∧ dp.toNatClampNeg + n.toNatClampNeg ≤ (am_sh h a).2.2
def am_xy (d : am_D) (st : List Value) (h : am_H) : Option (List Value × am_H) := match st with
  | .int n :: .int dp :: .ref a :: .int sp :: .ref a0 :: r => if am_yc d h n dp sp a a0 r then some (r, am_wR h a (va_cpy (am_I h a0) (am_I h a) sp.toNatClampNeg dp.toNatClampNeg n.toNatClampNeg)) else none
  | _ => none
/-- what an instruction does to operand stack and heap; d: the calls that are left -/
def am_me (d : am_D) (i : Instr) (st : List Value) (h : am_H) : Option (List Value × am_H) := match i with
  | .getfield cf => am_xg cf st h
  | .putfield cf => am_xp cf st h
  | .iaload => am_xl 1 st h
  | .iastore => am_xs st h
  | .baload => am_xl 3 st h
  | .bastore => am_xz st h
  | .aaload => am_xa st h
  | .aastore => am_xt st h
  | .arraylength => am_xn st h
  | .newarray .int => am_xw (some 1) st h
  | .newarray .boolean => am_xw (some 3) st h
  | .anewarray c => am_xq c st h
  | .new c => some (.ref (am_n h) :: st, am_new h (0, c, 0) (am_nf c))
  | .caload => am_xc st h
  | .saload => am_xe st h
  | .monitorenter => am_xo d st h
  | .dadd => am_xm d st h
  | .dsub => am_xy d st h
  | _ => none
noncomputable def am_one (d : am_D) (i : Instr) (nx : Nat) (L : am_L) (st : List Value) (h : am_H) : Option (Nat × am_L × List Value × am_H) := match am_alu i st with
  | some st' => some (nx, L, st', h)
  | none => match am_br i nx st with
    | some q => some (q.1, L, q.2, h)
    | none => match am_lo i L st with
      | some q => some (nx, q.1, q.2, h)
      | none => match am_me d i st h with
        | some q => some (nx, L, q.1, q.2)
        | none => none
def am_ret (rt : Option FieldType) (i : Instr) (st : List Value) : Option (Option Value) := match i with
  | .return_ => match rt, st with
    | none, [] => some none
    | _, _ => none
  | .ireturn => match rt, st with
    | some .int, [.int v] => some (some (.int v))
    | some .boolean, [.int v] => if v &&& 1 = v then some (some (.int v)) else none
    | _, _ => none
  | .lreturn => match rt, st with
    | some .long, [.long v] => some (some (.long v))
    | _, _ => none
  | .areturn => match rt, st with
    | some (.object _), [.ref v] => some (some (.ref v))
    | some (.object _), [.null] => some (some .null)
    | _, _ => none
  | _ => none
def am_cal (i : Instr) : Option Nat := match i with
  | .invokestatic k => some k
  | _ => none
def am_y (k : Nat) : MethodName := (am_M.getD k am_M0).1
def am_cc (k : Nat) : ByteArray := (am_M.getD k am_M0).2.1
def am_ml (k : Nat) : Nat := (am_M.getD k am_M0).2.2.1
def am_rt (k : Nat) : Option FieldType := (am_M.getD k am_M0).2.2.2.1
/-- the receiver's class of an instance method -/
def am_rc (k : Nat) : Option Nat := (am_M.getD k am_M0).2.2.2.2.1
/-- how many operands a call takes, the receiver with them -/
def am_na (k : Nat) : Nat := (am_M.getD k am_M0).2.2.2.2.2
def am_at (k pc : Nat) : Option (Instr × Nat) := (am_T.getD k []).lookup pc
def am_rv (k : Nat) (As : List Value) (h : am_H) : Prop := match am_rc k with
  | none => True
  | some c => match As with
    | .ref q :: _ => am_ob h q c
    | _ => False
def am_es (As : List Value) : am_L := As.flatMap fun v => if v.category = 2 then [some v, none] else [some v]
def am_en (ml : Nat) (As : List Value) : am_L := am_es As ++ List.replicate (ml - (am_es As).length) none
def am_cx (k : Nat) (st : List Value) (h : am_H) : Prop := am_na k ≤ st.length ∧ am_sm (st.drop (am_na k)) ∧ am_rv k (st.take (am_na k)).reverse h ∧ (am_es (st.take (am_na k)).reverse).length ≤ am_ml k
noncomputable def am_oif {α : Type} (c : Prop) (a : Option α) : Option α := @ite (Option α) c (Classical.propDecidable c) a none
theorem am_oif_t {α : Type} {c : Prop} {a : Option α} (h : c) : am_oif c a = a := by unfold am_oif; exact if_pos h
theorem am_oif_s {α : Type} {c : Prop} {a : Option α} {x : α} (h : am_oif c a = some x) : c ∧ a = some x := by
  unfold am_oif at h
  split at h
  · exact ⟨by assumption, h⟩
  · cases h
noncomputable def am_ex : Nat → am_D → Nat → Nat → am_L → List Value → am_H → Option (Option Value × am_H)
  | 0, _, _, _, _, _, _ => none
  | n + 1, d, mi, pc, L, st, h => match am_at mi pc with
    | none => none
    | some (i, nx) => match am_cal i with
      | some k => am_oif (0 < d.1 ∧ 19 + am_ml k ≤ d.2 ∧ am_cx k st h) (match am_ex n (d.1 - 1, d.2 - (19 + am_ml k)) k 0 (am_en (am_ml k) (st.take (am_na k)).reverse) [] h with
          | some (r, h1) => am_ex n d mi nx L (r.toList ++ st.drop (am_na k)) h1
          | none => none)
      | none => match am_ret (am_rt mi) i st with
        | some r => some (r, h)
        | none => match am_one d i nx L st h with
          | some q => am_ex n d mi q.1 q.2.1 q.2.2.1 q.2.2.2
          | none => none
