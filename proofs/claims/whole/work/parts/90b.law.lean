/-- the law runs through -/
theorem am_law {L : Nat} {xs : Nat → Int32} (hL : L ≤ 3072) : am_wp (11, 434) 0 0 [some (.ref 0), none, none, none] [] (am_h0 L xs) (fun r h' => r = some (.int 1) ∧ am_n h' ≤ 600001 ∧ am_sl h' ≤ 7302250) := am_law0 hL
