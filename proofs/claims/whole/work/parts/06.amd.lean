/-! Each step of the abstract machine is a step of the machine. -/
theorem am_ii_s {f : Int32 → Int32 → Int32} {st st' : List Value} (h : am_ii f st = some st') : ∃ x y r, st = .int y :: .int x :: r ∧ st' = .int (f x y) :: r := by
  unfold am_ii at h
  split at h
  · cases h; exact ⟨_, _, _, rfl, rfl⟩
  · cases h
theorem am_ll_s {f : Int64 → Int64 → Int64} {st st' : List Value} (h : am_ll f st = some st') : ∃ x y r, st = .long y :: .long x :: r ∧ st' = .long (f x y) :: r := by
  unfold am_ll at h
  split at h
  · cases h; exact ⟨_, _, _, rfl, rfl⟩
  · cases h
theorem am_if_k {P : Nat → Prop} {c : Prop} {a b : Nat} (k : P (am_if c a b)) : (c → P a) ∧ (¬ c → P b) := ⟨fun h => by rw [am_if_t h] at k; exact k, fun h => by rw [am_if_f h] at k; exact k⟩
section AMD
variable {p : Program} {l : Launch} {e : Env} {R : Room} {s : State} {m : MethodId} {args : Array Value} {below : List Frame} {meth : Method} {c : Code} {H : Heap} {locs : List Loc} {cells slots : Nat} {Q : State → Prop} {A : Nat → Prop} {D : va_G} {mi pc nx : Nat} {d : am_D} {h : am_H} {ρ : Nat → Nat} {α : Nat → ClassId} {ls : Array Slot} {L : am_L} {st : List Value} {i : Instr}
theorem am_alu_s (F : am_F p s m args meth c A mi) {st' : List Value} (hok : am_ok mi pc i nx) (ha : am_alu i st = some st') (k : W p l e R s m args below meth c H locs cells slots Q (F0 m nx ls (st'.map (am_cv ρ)))) : W p l e R s m args below meth c H locs cells slots Q (F0 m pc ls (st.map (am_cv ρ))) := by
  obtain ⟨hx, hb, hml, hr, hown, hts, hN, hlk, hnm, hA⟩ := F
  unfold am_alu at ha
  split at ha
  · cases ha
    rcases hok with ⟨hd, rfl⟩ | ⟨⟨hd, rfl⟩, hv⟩ | ⟨⟨hd, rfl⟩, hv⟩ | ⟨x, ⟨hd, rfl⟩, hw⟩
    · exact lv_iconst hx hb hd rfl k
    · exact lv_bipush hx hb hd hv k
    · exact lv_sipush hx hb hd hv k
    · exact lv_ldc hx hb hown (hts _ hw) hd k
  · cases ha
    rcases hok with ⟨f, ⟨hd, rfl⟩, hv⟩ | ⟨x, ⟨hd, rfl⟩, hw⟩
    · exact lv_lconst hx hb hd hv k
    · exact lv_ldc2 hx hb hown (hts _ hw) hd k
  · cases ha
    obtain ⟨hd, rfl⟩ := hok
    exact lv_null hx hb hd k
  · obtain ⟨hd, rfl⟩ := hok
    obtain ⟨x, y, r, rfl, rfl⟩ := am_ii_s ha
    exact lv_iadd hx hb hd k
  · obtain ⟨hd, rfl⟩ := hok
    obtain ⟨x, y, r, rfl, rfl⟩ := am_ii_s ha
    exact lv_isub hx hb hd k
  · obtain ⟨hd, rfl⟩ := hok
    obtain ⟨x, y, r, rfl, rfl⟩ := am_ii_s ha
    exact lv_imul hx hb hd k
  · obtain ⟨hd, rfl⟩ := hok
    obtain ⟨x, y, r, rfl, rfl⟩ := am_ii_s ha
    exact lv_iand hx hb hd k
  · obtain ⟨hd, rfl⟩ := hok
    obtain ⟨x, y, r, rfl, rfl⟩ := am_ii_s ha
    exact lv_ior hx hb hd k
  · obtain ⟨hd, rfl⟩ := hok
    obtain ⟨x, y, r, rfl, rfl⟩ := am_ii_s ha
    exact lv_ixor hx hb hd k
  · obtain ⟨hd, rfl⟩ := hok
    obtain ⟨x, y, r, rfl, rfl⟩ := am_ii_s ha
    exact lv_ishl hx hb hd k
  · obtain ⟨hd, rfl⟩ := hok
    obtain ⟨x, y, r, rfl, rfl⟩ := am_ii_s ha
    exact lv_ishr hx hb hd k
  · obtain ⟨hd, rfl⟩ := hok
    split at ha
    · split at ha
      · cases ha
      · rename_i hne; cases ha
        exact lv_irem hx hb hd hne k
    · cases ha
  · obtain ⟨hd, rfl⟩ := hok
    split at ha
    · split at ha
      · cases ha
      · rename_i hne; cases ha
        exact lv_idiv hx hb hd hne k
    · cases ha
  · obtain ⟨hd, rfl⟩ := hok
    split at ha
    · cases ha
      exact lv_ineg hx hb hd k
    · cases ha
  · obtain ⟨hd, rfl⟩ := hok
    obtain ⟨x, y, r, rfl, rfl⟩ := am_ll_s ha
    exact lv_ladd hx hb hd k
  · obtain ⟨hd, rfl⟩ := hok
    obtain ⟨x, y, r, rfl, rfl⟩ := am_ll_s ha
    exact lv_lsub hx hb hd k
  · obtain ⟨hd, rfl⟩ := hok
    split at ha
    · cases ha
      exact lv_i2l hx hb hd rfl k
    · cases ha
  · obtain ⟨hd, rfl⟩ := hok
    split at ha
    · cases ha
      exact lv_l2i hx hb hd rfl k
    · cases ha
  · obtain ⟨hd, rfl⟩ := hok
    split at ha
    · cases ha
      exact W.lcmp hx hb hd k
    · cases ha
  · obtain ⟨hd, rfl⟩ := hok
    split at ha
    · split at ha
      · rename_i hc; cases ha
        exact lv_dup hx hb hd (by rw [am_cv_cat]; exact hc) k
      · cases ha
    · cases ha
  · obtain ⟨hd, rfl⟩ := hok
    split at ha
    · split at ha
      · rename_i hc; cases ha
        exact lv_pop hx hb hd (by rw [am_cv_cat]; exact hc) k
      · cases ha
    · cases ha
  · obtain ⟨hd, rfl⟩ := hok
    split at ha
    · split at ha
      · rename_i hc; cases ha
        exact lv_dup_x1 hx hb hd (by rw [am_cv_cat]; exact hc.1) (by rw [am_cv_cat]; exact hc.2) k
      · cases ha
    · cases ha
  · obtain ⟨hd, rfl⟩ := hok
    split at ha
    · split at ha
      · rename_i hc; cases ha
        exact lv_dup_x2 hx hb hd (by rw [am_cv_cat]; exact hc.1) (by rw [am_cv_cat]; exact hc.2.1) (by rw [am_cv_cat]; exact hc.2.2) k
      · cases ha
    · cases ha
  · obtain ⟨hd, rfl⟩ := hok
    split at ha
    · split at ha
      · rename_i hc; cases ha
        exact lv_dup2_11 hx hb hd (by rw [am_cv_cat]; exact hc.1) (by rw [am_cv_cat]; exact hc.2) k
      · cases ha
    · cases ha
  · cases ha
theorem am_br_s (F : am_F p s m args meth c A mi) {q : Nat × List Value} (hok : am_ok mi pc i nx) (ha : am_br i nx st = some q) (k : W p l e R s m args below meth c H locs cells slots Q (F0 m q.1 ls (q.2.map (am_cv ρ)))) : W p l e R s m args below meth c H locs cells slots Q (F0 m pc ls (st.map (am_cv ρ))) := by
  obtain ⟨hx, hb, hml, hr, hown, hts, hN, hlk, hnm, hA⟩ := F
  unfold am_br at ha
  split at ha
  · rename_i cd t
    obtain ⟨off, ⟨hd, rfl⟩, ht⟩ := hok
    split at ha
    · rename_i x r
      cases ha
      have kk := am_if_k (P := fun z => W p l e R s m args below meth c H locs cells slots Q (F0 m z ls (r.map (am_cv ρ)))) k
      cases cd
      · exact lv_if_eq hx hb hd ht kk.1 kk.2
      · exact lv_if_ne hx hb hd ht kk.1 (fun h => kk.2 (fun z => z h))
      · exact lv_if_lt hx hb hd ht kk.1 kk.2
      · exact lv_if_ge hx hb hd ht kk.1 kk.2
      · exact lv_if_gt hx hb hd ht kk.1 kk.2
      · exact lv_if_le hx hb hd ht kk.1 kk.2
    · cases ha
  · rename_i cd t
    obtain ⟨off, ⟨hd, rfl⟩, ht⟩ := hok
    split at ha
    · rename_i y x r
      cases ha
      have kk := am_if_k (P := fun z => W p l e R s m args below meth c H locs cells slots Q (F0 m z ls (r.map (am_cv ρ)))) k
      cases cd
      · exact lv_icmp_eq hx hb hd ht kk.1 kk.2
      · exact lv_icmp_ne hx hb hd ht kk.1 (fun h => kk.2 (fun z => z h))
      · exact lv_icmp_lt hx hb hd ht kk.1 kk.2
      · exact lv_icmp_ge hx hb hd ht kk.1 kk.2
      · exact lv_icmp_gt hx hb hd ht kk.1 kk.2
      · exact lv_icmp_le hx hb hd ht kk.1 kk.2
    · cases ha
  · obtain ⟨off, ⟨hd, rfl⟩, ht⟩ := hok
    cases ha
    exact lv_goto hx hb hd ht k
  · obtain ⟨off, ⟨hd, rfl⟩, ht⟩ := hok
    split at ha
    · cases ha
      exact lv_ifnullN hx hb hd ht k
    · cases ha
      exact lv_ifnull hx hb hd k
    · cases ha
  · obtain ⟨off, ⟨hd, rfl⟩, ht⟩ := hok
    split at ha
    · cases ha
      exact lv_ifnonnullN hx hb hd k
    · cases ha
      exact lv_ifnonnull hx hb hd ht k
    · cases ha
  · obtain ⟨d0, offs, len, ⟨hd, rfl⟩, h0, hj⟩ := hok
    split at ha
    · split at ha
      · rename_i hc; cases ha
        exact lv_tableOut hx hb hd hc h0 k
      · rename_i hc
        split at ha
        · rename_i t ht; cases ha
          obtain ⟨o, ho, hto⟩ := hj _ _ ht
          exact lv_tableIn hx hb hd (fun z => hc (Or.inl z)) (fun z => hc (Or.inr z)) ho hto k
        · cases ha
    · cases ha
  · cases ha
theorem am_lo_s (F : am_F p s m args meth c A mi) (hl : am_lr ρ L ls (am_ml mi)) {q : am_L × List Value} (hok : am_ok mi pc i nx) (ha : am_lo i L st = some q) (k : ∀ ls', am_lr ρ q.1 ls' (am_ml mi) → W p l e R s m args below meth c H locs cells slots Q (F0 m nx ls' (q.2.map (am_cv ρ)))) : W p l e R s m args below meth c H locs cells slots Q (F0 m pc ls (st.map (am_cv ρ))) := by
  obtain ⟨hx, hb, hml, hr, hown, hts, hN, hlk, hnm, hA⟩ := F
  unfold am_lo at ha
  split at ha
  · split at ha
    · rename_i e1; cases ha
      rcases hok with ⟨f, ⟨hd, rfl⟩, hf⟩ | ⟨hd, rfl⟩
      · exact lv_iload_n hx hb hd hf (am_lr_at hl e1) (k ls hl)
      · exact lv_iload hx hb hd (am_lr_at hl e1) (k ls hl)
    · cases ha
  · split at ha
    · rename_i e1; cases ha
      rcases hok with ⟨f, ⟨hd, rfl⟩, hf⟩ | ⟨hd, rfl⟩
      · exact lv_lload_n hx hb hd hf (am_lr_at hl e1) (k ls hl)
      · exact lv_lload hx hb hd (am_lr_at hl e1) (k ls hl)
    · cases ha
  · split at ha
    · rename_i e1; cases ha
      rcases hok with ⟨f, ⟨hd, rfl⟩, hf⟩ | ⟨hd, rfl⟩
      · exact lv_aload_n hx hb hd hf (am_lr_at hl e1) (k ls hl)
      · exact lv_aload hx hb hd (am_lr_at hl e1) (k ls hl)
    · rename_i e1; cases ha
      rcases hok with ⟨f, ⟨hd, rfl⟩, hf⟩ | ⟨hd, rfl⟩
      · exact lv_aload_nN hx hb hd hf (am_lr_at hl e1) (k ls hl)
      · exact lv_aloadN hx hb hd (am_lr_at hl e1) (k ls hl)
    · cases ha
  · split at ha
    · split at ha
      · rename_i hi; cases ha
        rw [hl.2] at hi
        rcases hok with ⟨f, ⟨hd, rfl⟩, hf⟩ | ⟨hd, rfl⟩
        · exact lv_istore_n hx hb hd hf hl.1 hi rfl (fun ls' h' => k ls' (am_lr_s1 hl.2 h'))
        · exact lv_istore hx hb hd hl.1 hi rfl (fun ls' h' => k ls' (am_lr_s1 hl.2 h'))
      · cases ha
    · cases ha
  · split at ha
    · split at ha
      · rename_i hi; cases ha
        rw [hl.2] at hi
        rcases hok with ⟨f, ⟨hd, rfl⟩, hf⟩ | ⟨hd, rfl⟩
        · exact lv_astore_n hx hb hd hf hl.1 hi rfl (fun ls' h' => k ls' (am_lr_s1 hl.2 h'))
        · exact lv_astore hx hb hd hl.1 hi rfl (fun ls' h' => k ls' (am_lr_s1 hl.2 h'))
      · cases ha
    · split at ha
      · rename_i hi; cases ha
        rw [hl.2] at hi
        rcases hok with ⟨f, ⟨hd, rfl⟩, hf⟩ | ⟨hd, rfl⟩
        · exact lv_astore_nN hx hb hd hf hl.1 hi rfl (fun ls' h' => k ls' (am_lr_s1 hl.2 h'))
        · exact lv_astoreN hx hb hd hl.1 hi rfl (fun ls' h' => k ls' (am_lr_s1 hl.2 h'))
      · cases ha
    · cases ha
  · split at ha
    · split at ha
      · rename_i hi; cases ha
        rw [hl.2] at hi
        rcases hok with ⟨f, ⟨hd, rfl⟩, hf⟩ | ⟨hd, rfl⟩
        · exact lv_lstore_n hx hb hd hf hl.1 hi rfl (fun ls' h' => k ls' (am_lr_s2 hl.2 h'))
        · exact lv_lstore hx hb hd hl.1 hi rfl (fun ls' h' => k ls' (am_lr_s2 hl.2 h'))
      · cases ha
    · cases ha
  · split at ha
    · rename_i x e1
      split at ha
      · rename_i hi; cases ha
        rw [hl.2] at hi
        obtain ⟨hd, rfl⟩ := hok
        obtain ⟨j, hj⟩ := List.getElem?_of_mem ((am_kn_m (ρ := ρ) (L := L) (q := (_, Value.int x))).mpr ⟨.int x, am_ld_s e1, rfl⟩)
        exact lv_iinc hx hb hd hl.1 hj rfl hi rfl (fun ls' h' => k ls' (am_lr_s1 hl.2 h'))
      · cases ha
    · cases ha
  · cases ha
end AMD
