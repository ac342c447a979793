/-! 10: THE PURE MACHINE IS SOUND (part 5): the whole step, a run, a method -/
section GjU
variable {E : gj_E} {om : gj_Om} {mt : Nat → gj_M} {M : gj_M} {p : Program} {e : Env} {s : State} {m : MethodId} {args : Array Value} {below : List Frame} {meth : Method} {c : Code} {Q : Option Value → gj_I → gj_J → Prop} {X : gj_X}
variable {K : Nat → gj_O → List Value → gj_I → gj_J → Prop} {rec : gj_O → List Value → gj_I → gj_J → Prop} {pc n ax : Nat}
set_option maxHeartbeats 8000000 in
theorem gj_stat_s (hcl : gj_clF) (F : gj_F E om M X p s m args meth c) {idx : Nat} (hok : gj_ok mt M (pc, .invokestatic idx, n, ax)) (hrec : ∀ ls st SI SJ, rec ls st SI SJ → gj_G E om M p e s m args below meth c X (pc + n) ls st SI SJ) {ls : gj_O} {st : List Value} {SI : gj_I} {SJ : gj_J} (h : gj_step E om (fun mid => gj_Do E om (mt mid)) K Q rec pc (.invokestatic idx) ax ls st SI SJ) : gj_G E om M p e s m args below meth c X pc ls st SI SJ := by
  obtain ⟨hd, hn, hl⟩ := hok
  have hn : n = 3 := hn
  subst hn
  have hF := F
  obtain ⟨hx, hb, hml, hown, hts, hr, hlo, hK0, hSt, hsz, hXf, hXl, hXc, hXs, hXb⟩ := hF
  simp only [gj_lk] at hl
  simp only [gj_step] at h
  split at h
  · rename_i hmid
    simp only [hmid] at hl
    obtain ⟨⟨l1, l2, l3, l4, l5⟩, l6⟩ := hl
    obtain ⟨x, y, r, rfl, h⟩ := gj_i2_s h
    obtain ⟨h1, h⟩ := gj_if h
    have h1 : gj_cat r ≤ 8 := Nat.le_of_ble_eq_true h1
    intro H locs la hP hS hL
    exact va_mmax hx hb (by rw [hml]; exact hL.1.symm) hown (hts _ l1) (hts _ l2) (hts _ l3) (hts _ l6) (by rw [hXf]; exact l4) (by rw [gj_cat_map, hXl]; omega) hXc hXs hd (hrec _ _ _ _ h H locs la hP hS hL)
  · rename_i hmid
    simp only [hmid] at hl
    obtain ⟨⟨l1, l2, l3, l4, l5⟩, l6⟩ := hl
    obtain ⟨x, y, r, rfl, h⟩ := gj_i2_s h
    obtain ⟨h1, h⟩ := gj_if h
    have h1 : gj_cat r ≤ 8 := Nat.le_of_ble_eq_true h1
    intro H locs la hP hS hL
    exact va_mmin hx hb (by rw [hml]; exact hL.1.symm) hown (hts _ l1) (hts _ l2) (hts _ l3) (hts _ l6) (by rw [hXf]; exact l4) (by rw [gj_cat_map, hXl]; omega) hXc hXs hd (hrec _ _ _ _ h H locs la hP hS hL)
  · rename_i hmid
    simp only [hmid] at hl
    obtain ⟨⟨l1, l2, l3, l4, l5⟩, l6⟩ := hl
    obtain ⟨x, r, rfl, h⟩ := gj_i1_s h
    obtain ⟨h1, h⟩ := gj_if h
    have h1 : gj_cat r ≤ 8 := Nat.le_of_ble_eq_true h1
    intro H locs la hP hS hL
    exact va_mabs hx hb (by rw [hml]; exact hL.1.symm) hown (hts _ l1) (hts _ l2) (hts _ l3) (hts _ l6) (by rw [hXf]; exact l4) (by rw [gj_cat_map, hXl]; omega) hXc hXs hd (hrec _ _ _ _ h H locs la hP hS hL)
  · rename_i hmid
    simp only [hmid] at hl
    obtain ⟨⟨l1, l2, l3, l4, l5⟩, l6⟩ := hl
    obtain ⟨x, r, rfl, h⟩ := gj_l1_s h
    obtain ⟨h1, h⟩ := gj_if h
    have h1 : gj_cat r ≤ 8 := Nat.le_of_ble_eq_true h1
    intro H locs la hP hS hL
    exact va_mabs_long hx hb (by rw [hml]; exact hL.1.symm) hown (hts _ l1) (hts _ l2) (hts _ l3) (hts _ l6) (by rw [hXf]; exact l4) (by rw [gj_cat_map, hXl]; omega) hXc hXs hd (hrec _ _ _ _ h H locs la hP hS hL)
  · rename_i hmid
    simp only [hmid] at hl
    obtain ⟨⟨l1, l2, l3, l4, l5⟩, l6⟩ := hl
    unfold gj_cpy at h
    split at h
    · rename_i nn dp a1 sp a0 r
      obtain ⟨h1, h3, h4, h5, h6, h7, h⟩ := gj_if h
      simp only [Bool.and_eq_true] at h1
      obtain ⟨⟨⟨y0, o0, c0⟩, y1, o1, c1⟩, hc⟩ := h1
      have y0 : (gj_Y a0).1 = 0 := Nat.eq_of_beq_eq_true y0
      have y1 : (gj_Y a1).1 = 0 := Nat.eq_of_beq_eq_true y1
      have hc : gj_cat r ≤ 8 := Nat.le_of_ble_eq_true hc
      have o0 : a0 < om.1 := Nat.le_of_ble_eq_true o0
      have o1 : a1 < om.1 := Nat.le_of_ble_eq_true o1
      intro H locs la hP hS hL
      show W p E.1 e X.1 s m args below meth c H locs X.2.1 X.2.2.1 X.2.2.2 (F0 m pc la (.int nn :: .int dp :: .ref (gj_ad E a1) :: .int sp :: .ref (gj_ad E a0) :: r.map (gj_rv E)))
      rw [gj_ad_lo c0, gj_ad_lo c1]
      refine va_copyi hx hb (by rw [hml]; exact hL.1.symm) hown (hts _ l1) (hts _ l6) (hts _ l2) (hts _ l3) hK0 hP (gj_ap E om SI SJ) hS a0 a1 0 0 (gj_arr0 y0 o0) (gj_arr0 y1 o1) rfl rfl rfl h3 h4 h5 h6 h7 (fun _ _ => rfl) (by rw [hXf]; exact l4) ?_ hd (fun H1 locs1 hP1 _ hS1 => ?_)
      · rw [gj_cat_map, hXl]
        have : nativeFrameWords "java/lang/System" "arraycopy" 5 + 11 ≤ 32 := by decide
        omega
      · rw [gj_wrC y1] at hP1
        exact hrec _ _ _ _ h H1 locs1 la hP1 hS1 hL
    · exact h.elim
  · exact h.elim
  · rename_i mid hm1 hm2 hm3 hm4 hm5 hm6
    split at hl
    · rename_i q; exact absurd q hm1
    · rename_i q; exact absurd q hm2
    · rename_i q; exact absurd q hm3
    · rename_i q; exact absurd q hm4
    · rename_i q; exact absurd q hm5
    · rename_i q; exact absurd q hm6
    obtain ⟨B, r, rfl, hB, h⟩ := gj_pop_s _ _ _ _ h
    rw [List.append_nil] at h
    obtain ⟨h1, h⟩ := gj_if h
    have h1 : gj_cat r ≤ 8 := Nat.le_of_ble_eq_true h1
    exact gj_call_s (C := "") F (mt := mt) (by rw [hB]; exact hl.1) h1 h hl.2 hd hrec

set_option maxHeartbeats 8000000 in
theorem gj_step_s (hcl : gj_clF) (F : gj_F E om M X p s m args meth c) (hT : gj_RT E om M p e s m args below meth c X Q) {i : Instr} (hok : gj_ok mt M (pc, i, n, ax)) (hrec : ∀ ls st SI SJ, rec ls st SI SJ → gj_G E om M p e s m args below meth c X (pc + n) ls st SI SJ) (hK : ∀ t ls st SI SJ, K t ls st SI SJ → gj_G E om M p e s m args below meth c X t ls st SI SJ) {ls : gj_O} {st : List Value} {SI : gj_I} {SJ : gj_J} (h : gj_step E om (fun mid => gj_Do E om (mt mid)) K Q rec pc i ax ls st SI SJ) : gj_G E om M p e s m args below meth c X pc ls st SI SJ := by
  have hok2 := hok
  have hF := F
  obtain ⟨hx, hb, hml, hown, hts, hr, hlo, hK0, hSt, hsz, hXf, hXl, hXc, hXs, hXb⟩ := hF
  obtain ⟨hd, hn, hl⟩ := hok
  have hd : decode (gj_cc M) pc = .ok (i, n) := hd
  cases i with
  | iconst v =>
    have hn : n = 1 := hn
    subst hn
    intro H locs la hP hS hL
    exact lv_iconst hx hb hd rfl (hrec _ _ _ _ h H locs la hP hS hL)
  | bipush v =>
    have hn : n = 2 := hn
    subst hn
    intro H locs la hP hS hL
    exact lv_bipush hx hb hd rfl (hrec _ _ _ _ h H locs la hP hS hL)
  | sipush v =>
    have hn : n = 3 := hn
    subst hn
    intro H locs la hP hS hL
    exact lv_sipush hx hb hd rfl (hrec _ _ _ _ h H locs la hP hS hL)
  | lconst v =>
    have hn : n = 1 := hn
    subst hn
    intro H locs la hP hS hL
    exact lv_lconst hx hb hd rfl (hrec _ _ _ _ h H locs la hP hS hL)
  | ldc idx =>
    have hn : n = 2 := hn
    subst hn
    simp only [gj_step] at h
    rcases hl with ⟨h1, hl⟩ | ⟨j, hj, rfl, hC, hi⟩
    · have hb1 : Nat.blt ax 4294967296 = true := Nat.ble_eq_true_of_le h1
      rw [hb1] at h
      intro H locs la hP hS hL
      exact lv_ldc hx hb hown (hts _ hl) hd (hrec _ _ _ _ h H locs la hP hS hL)
    · have hb1 : Nat.blt (4294967296 + 132 + j) 4294967296 = false := by
        cases hq : Nat.blt (4294967296 + 132 + j) 4294967296
        · rfl
        · have : 4294967296 + 132 + j < 4294967296 := Nat.le_of_ble_eq_true hq
          omega
      simp only [hb1, cond_false] at h
      rw [show 4294967296 + 132 + j - 4294967296 = 132 + j by omega] at h
      intro H locs la hP hS hL
      have hR := hSt.2.2.2.2.2.1 j hj
      have k := hrec _ _ _ _ h H locs la hP hS hL
      have k : W p E.1 e X.1 s m args below meth c H locs X.2.1 X.2.2.1 X.2.2.2 (F0 m (pc + 2) la (.ref (gj_ad E (132 + j)) :: st.map (gj_rv E))) := k
      have hb2 : Nat.blt (132 + j) 128 = false := by
        cases hq : Nat.blt (132 + j) 128
        · rfl
        · have : 132 + j < 128 := Nat.le_of_ble_eq_true hq
          omega
      rw [gj_ad_hi hb2, show 132 + j - 128 = 4 + j by omega] at k
      rw [← hC, ← hi] at hR
      exact va_ldcS hx hb hown hR hd k
  | ldc_w idx =>
    have hn : n = 3 := hn
    subst hn
    intro H locs la hP hS hL
    exact lv_ldcw hx hb hown (hts _ hl) hd (hrec _ _ _ _ h H locs la hP hS hL)
  | ldc2_w idx =>
    have hn : n = 3 := hn
    subst hn
    intro H locs la hP hS hL
    exact lv_ldc2 hx hb hown (hts _ hl) hd (hrec _ _ _ _ h H locs la hP hS hL)
  | iload_n k =>
    have hn : n = 1 := hn
    subst hn
    obtain ⟨x, hg, h⟩ := gj_gi_s h
    intro H locs la hP hS hL
    exact lv_iload_n hx hb hd rfl (hL.2.2.2 _ _ hg) (hrec _ _ _ _ h H locs la hP hS hL)
  | iload k =>
    have hn : n = 2 := hn
    subst hn
    obtain ⟨x, hg, h⟩ := gj_gi_s h
    intro H locs la hP hS hL
    exact lv_iload hx hb hd (hL.2.2.2 _ _ hg) (hrec _ _ _ _ h H locs la hP hS hL)
  | lload_n k =>
    have hn : n = 1 := hn
    subst hn
    obtain ⟨x, hg, h⟩ := gj_gl_s h
    intro H locs la hP hS hL
    exact lv_lload_n hx hb hd rfl (hL.2.2.2 _ _ hg) (hrec _ _ _ _ h H locs la hP hS hL)
  | lload k =>
    have hn : n = 2 := hn
    subst hn
    obtain ⟨x, hg, h⟩ := gj_gl_s h
    intro H locs la hP hS hL
    exact lv_lload hx hb hd (hL.2.2.2 _ _ hg) (hrec _ _ _ _ h H locs la hP hS hL)
  | aload_n k =>
    have hn : n = 1 := hn
    subst hn
    obtain ⟨x, hg, h⟩ := gj_ga_s h
    intro H locs la hP hS hL
    exact lv_aload_n hx hb hd rfl (hL.2.2.2 _ _ hg) (hrec _ _ _ _ h H locs la hP hS hL)
  | aload k =>
    have hn : n = 2 := hn
    subst hn
    obtain ⟨x, hg, h⟩ := gj_ga_s h
    intro H locs la hP hS hL
    exact lv_aload hx hb hd (hL.2.2.2 _ _ hg) (hrec _ _ _ _ h H locs la hP hS hL)
  | istore_n k =>
    have hn : n = 1 := hn
    subst hn
    obtain ⟨x, r, rfl, h⟩ := gj_i1_s h
    obtain ⟨h1, h⟩ := gj_if h
    intro H locs la hP hS hL
    exact lv_istore_n (lv' := _) hx hb hd rfl hL.has (by rw [← hL.2.1]; exact Nat.le_of_ble_eq_true h1) rfl (fun la2 hq => hrec _ _ _ _ h H locs la2 hP hS (gj_La.st1 hL.2.1 hq))
  | istore k =>
    have hn : n = 2 := hn
    subst hn
    obtain ⟨x, r, rfl, h⟩ := gj_i1_s h
    obtain ⟨h1, h⟩ := gj_if h
    intro H locs la hP hS hL
    exact lv_istore (lv' := _) hx hb hd hL.has (by rw [← hL.2.1]; exact Nat.le_of_ble_eq_true h1) rfl (fun la2 hq => hrec _ _ _ _ h H locs la2 hP hS (gj_La.st1 hL.2.1 hq))
  | lstore_n k =>
    have hn : n = 1 := hn
    subst hn
    obtain ⟨x, r, rfl, h⟩ := gj_l1_s h
    obtain ⟨h1, h⟩ := gj_if h
    intro H locs la hP hS hL
    exact lv_lstore_n (lv' := _) hx hb hd rfl hL.has (by rw [← hL.2.1]; exact Nat.le_of_ble_eq_true h1) rfl (fun la2 hq => hrec _ _ _ _ h H locs la2 hP hS (gj_La.st2 hL.2.1 hq))
  | lstore k =>
    have hn : n = 2 := hn
    subst hn
    obtain ⟨x, r, rfl, h⟩ := gj_l1_s h
    obtain ⟨h1, h⟩ := gj_if h
    intro H locs la hP hS hL
    exact lv_lstore (lv' := _) hx hb hd hL.has (by rw [← hL.2.1]; exact Nat.le_of_ble_eq_true h1) rfl (fun la2 hq => hrec _ _ _ _ h H locs la2 hP hS (gj_La.st2 hL.2.1 hq))
  | astore_n k =>
    have hn : n = 1 := hn
    subst hn
    obtain ⟨x, r, rfl, h⟩ := gj_r1_s h
    obtain ⟨h1, h⟩ := gj_if h
    intro H locs la hP hS hL
    exact lv_astore_n (lv' := _) hx hb hd rfl hL.has (by rw [← hL.2.1]; exact Nat.le_of_ble_eq_true h1) rfl (fun la2 hq => hrec _ _ _ _ h H locs la2 hP hS (gj_La.st1 hL.2.1 hq))
  | astore k =>
    have hn : n = 2 := hn
    subst hn
    obtain ⟨x, r, rfl, h⟩ := gj_r1_s h
    obtain ⟨h1, h⟩ := gj_if h
    intro H locs la hP hS hL
    exact lv_astore (lv' := _) hx hb hd hL.has (by rw [← hL.2.1]; exact Nat.le_of_ble_eq_true h1) rfl (fun la2 hq => hrec _ _ _ _ h H locs la2 hP hS (gj_La.st1 hL.2.1 hq))
  | iinc k v =>
    have hn : n = 3 := hn
    subst hn
    obtain ⟨x, hg, h⟩ := gj_gi_s h
    obtain ⟨h1, h⟩ := gj_if h
    intro H locs la hP hS hL
    obtain ⟨kk, hkk⟩ := List.getElem?_of_mem (gj_lv_mem (E := E) hg)
    exact lv_iinc (lv' := _) (k := kk) hx hb hd hL.has hkk rfl (by rw [← hL.2.1]; exact Nat.le_of_ble_eq_true h1) rfl (fun la2 hq => hrec _ _ _ _ h H locs la2 hP hS (gj_La.st1 (v := .int _) hL.2.1 hq))
  | iadd =>
    have hn : n = 1 := hn
    subst hn
    obtain ⟨x, y, r, rfl, h⟩ := gj_i2_s h
    intro H locs la hP hS hL
    exact lv_iadd hx hb hd (hrec _ _ _ _ h H locs la hP hS hL)
  | isub =>
    have hn : n = 1 := hn
    subst hn
    obtain ⟨x, y, r, rfl, h⟩ := gj_i2_s h
    intro H locs la hP hS hL
    exact lv_isub hx hb hd (hrec _ _ _ _ h H locs la hP hS hL)
  | imul =>
    have hn : n = 1 := hn
    subst hn
    obtain ⟨x, y, r, rfl, h⟩ := gj_i2_s h
    intro H locs la hP hS hL
    exact lv_imul hx hb hd (hrec _ _ _ _ h H locs la hP hS hL)
  | iand =>
    have hn : n = 1 := hn
    subst hn
    obtain ⟨x, y, r, rfl, h⟩ := gj_i2_s h
    intro H locs la hP hS hL
    exact lv_iand hx hb hd (hrec _ _ _ _ h H locs la hP hS hL)
  | ior =>
    have hn : n = 1 := hn
    subst hn
    obtain ⟨x, y, r, rfl, h⟩ := gj_i2_s h
    intro H locs la hP hS hL
    exact lv_ior hx hb hd (hrec _ _ _ _ h H locs la hP hS hL)
  | ixor =>
    have hn : n = 1 := hn
    subst hn
    obtain ⟨x, y, r, rfl, h⟩ := gj_i2_s h
    intro H locs la hP hS hL
    exact lv_ixor hx hb hd (hrec _ _ _ _ h H locs la hP hS hL)
  | ishl =>
    have hn : n = 1 := hn
    subst hn
    obtain ⟨x, y, r, rfl, h⟩ := gj_i2_s h
    intro H locs la hP hS hL
    exact lv_ishl hx hb hd (hrec _ _ _ _ h H locs la hP hS hL)
  | ishr =>
    have hn : n = 1 := hn
    subst hn
    obtain ⟨x, y, r, rfl, h⟩ := gj_i2_s h
    intro H locs la hP hS hL
    exact lv_ishr hx hb hd (hrec _ _ _ _ h H locs la hP hS hL)
  | idiv =>
    have hn : n = 1 := hn
    subst hn
    obtain ⟨x, y, r, rfl, h1, h⟩ := gj_i2_s h
    intro H locs la hP hS hL
    exact lv_idiv hx hb hd h1 (hrec _ _ _ _ h H locs la hP hS hL)
  | irem =>
    have hn : n = 1 := hn
    subst hn
    obtain ⟨x, y, r, rfl, h1, h⟩ := gj_i2_s h
    intro H locs la hP hS hL
    exact lv_irem hx hb hd h1 (hrec _ _ _ _ h H locs la hP hS hL)
  | iushr =>
    have hn : n = 1 := hn
    subst hn
    obtain ⟨x, y, r, rfl, h⟩ := gj_i2_s h
    intro H locs la hP hS hL
    exact lv_iushr hx hb hd rfl (hrec _ _ _ _ h H locs la hP hS hL)
  | ineg =>
    have hn : n = 1 := hn
    subst hn
    obtain ⟨x, r, rfl, h⟩ := gj_i1_s h
    intro H locs la hP hS hL
    exact lv_ineg hx hb hd (hrec _ _ _ _ h H locs la hP hS hL)
  | ladd =>
    have hn : n = 1 := hn
    subst hn
    obtain ⟨x, y, r, rfl, h⟩ := gj_l2_s h
    intro H locs la hP hS hL
    exact lv_ladd hx hb hd (hrec _ _ _ _ h H locs la hP hS hL)
  | lsub =>
    have hn : n = 1 := hn
    subst hn
    obtain ⟨x, y, r, rfl, h⟩ := gj_l2_s h
    intro H locs la hP hS hL
    exact lv_lsub hx hb hd (hrec _ _ _ _ h H locs la hP hS hL)
  | lmul =>
    have hn : n = 1 := hn
    subst hn
    obtain ⟨x, y, r, rfl, h⟩ := gj_l2_s h
    intro H locs la hP hS hL
    exact lv_lmul hx hb hd (hrec _ _ _ _ h H locs la hP hS hL)
  | lor =>
    have hn : n = 1 := hn
    subst hn
    obtain ⟨x, y, r, rfl, h⟩ := gj_l2_s h
    intro H locs la hP hS hL
    exact lv_lor hx hb hd (hrec _ _ _ _ h H locs la hP hS hL)
  | ldiv =>
    have hn : n = 1 := hn
    subst hn
    obtain ⟨x, y, r, rfl, h1, h⟩ := gj_l2_s h
    intro H locs la hP hS hL
    exact lv_ldiv hx hb hd h1 (hrec _ _ _ _ h H locs la hP hS hL)
  | lrem =>
    have hn : n = 1 := hn
    subst hn
    obtain ⟨x, y, r, rfl, h1, h⟩ := gj_l2_s h
    intro H locs la hP hS hL
    exact lv_lrem hx hb hd h1 (hrec _ _ _ _ h H locs la hP hS hL)
  | lneg =>
    have hn : n = 1 := hn
    subst hn
    obtain ⟨x, r, rfl, h⟩ := gj_l1_s h
    intro H locs la hP hS hL
    exact lv_lneg hx hb hd (hrec _ _ _ _ h H locs la hP hS hL)
  | lushr =>
    have hn : n = 1 := hn
    subst hn
    obtain ⟨x, y, r, rfl, h⟩ := gj_li_s h
    intro H locs la hP hS hL
    exact lv_lushr hx hb hd rfl (hrec _ _ _ _ h H locs la hP hS hL)
  | lshr =>
    have hn : n = 1 := hn
    subst hn
    obtain ⟨x, y, r, rfl, h⟩ := gj_li_s h
    intro H locs la hP hS hL
    exact lv_lshr hx hb hd rfl (hrec _ _ _ _ h H locs la hP hS hL)
  | lcmp =>
    have hn : n = 1 := hn
    subst hn
    obtain ⟨x, y, r, rfl, h⟩ := gj_l2_s h
    intro H locs la hP hS hL
    exact W.lcmp hx hb hd (hrec _ _ _ _ h H locs la hP hS hL)
  | i2l =>
    have hn : n = 1 := hn
    subst hn
    obtain ⟨x, r, rfl, h⟩ := gj_i1_s h
    intro H locs la hP hS hL
    exact lv_i2l hx hb hd rfl (hrec _ _ _ _ h H locs la hP hS hL)
  | l2i =>
    have hn : n = 1 := hn
    subst hn
    obtain ⟨x, r, rfl, h⟩ := gj_l1_s h
    intro H locs la hP hS hL
    exact lv_l2i hx hb hd rfl (hrec _ _ _ _ h H locs la hP hS hL)
  | i2b =>
    have hn : n = 1 := hn
    subst hn
    obtain ⟨x, r, rfl, h⟩ := gj_i1_s h
    intro H locs la hP hS hL
    exact lv_i2b hx hb hd rfl (hrec _ _ _ _ h H locs la hP hS hL)
  | i2c =>
    have hn : n = 1 := hn
    subst hn
    obtain ⟨x, r, rfl, h⟩ := gj_i1_s h
    intro H locs la hP hS hL
    exact lv_i2c hx hb hd rfl (hrec _ _ _ _ h H locs la hP hS hL)
  | dup =>
    have hn : n = 1 := hn
    subst hn
    simp only [gj_step] at h
    split at h
    · intro H locs la hP hS hL
      exact lv_dup hx hb hd rfl (hrec _ _ _ _ h H locs la hP hS hL)
    · intro H locs la hP hS hL
      exact lv_dup hx hb hd rfl (hrec _ _ _ _ h H locs la hP hS hL)
    · exact h.elim
  | pop =>
    have hn : n = 1 := hn
    subst hn
    simp only [gj_step] at h
    split at h
    · intro H locs la hP hS hL
      exact lv_pop hx hb hd rfl (hrec _ _ _ _ h H locs la hP hS hL)
    · exact h.elim
  | goto off =>
    have hn : n = 3 := hn
    subst hn
    intro H locs la hP hS hL
    exact lv_goto hx hb hd hl (hK _ _ _ _ _ h H locs la hP hS hL)
  | ifCond cd off =>
    have hn : n = 3 := hn
    subst hn
    obtain ⟨x, r, rfl, h⟩ := gj_i1_s h
    cases cd with
    | eq => exact fun H locs la hP hS hL => lv_if_eq hx hb hd hl (fun q => hK _ _ _ _ _ (h.1 q) H locs la hP hS hL) (fun q => hrec _ _ _ _ (h.2 q) H locs la hP hS hL)
    | ne => exact fun H locs la hP hS hL => lv_if_ne hx hb hd hl (fun q => hK _ _ _ _ _ (h.1 q) H locs la hP hS hL) (fun q => hrec _ _ _ _ (h.2 q) H locs la hP hS hL)
    | lt => exact fun H locs la hP hS hL => lv_if_lt hx hb hd hl (fun q => hK _ _ _ _ _ (h.1 q) H locs la hP hS hL) (fun q => hrec _ _ _ _ (h.2 q) H locs la hP hS hL)
    | ge => exact fun H locs la hP hS hL => lv_if_ge hx hb hd hl (fun q => hK _ _ _ _ _ (h.1 q) H locs la hP hS hL) (fun q => hrec _ _ _ _ (h.2 q) H locs la hP hS hL)
    | gt => exact fun H locs la hP hS hL => lv_if_gt hx hb hd hl (fun q => hK _ _ _ _ _ (h.1 q) H locs la hP hS hL) (fun q => hrec _ _ _ _ (h.2 q) H locs la hP hS hL)
    | le => exact fun H locs la hP hS hL => lv_if_le hx hb hd hl (fun q => hK _ _ _ _ _ (h.1 q) H locs la hP hS hL) (fun q => hrec _ _ _ _ (h.2 q) H locs la hP hS hL)
  | if_icmp cd off =>
    have hn : n = 3 := hn
    subst hn
    obtain ⟨x, y, r, rfl, h⟩ := gj_i2_s h
    cases cd with
    | eq => exact fun H locs la hP hS hL => lv_icmp_eq hx hb hd hl (fun q => hK _ _ _ _ _ (h.1 q) H locs la hP hS hL) (fun q => hrec _ _ _ _ (h.2 q) H locs la hP hS hL)
    | ne => exact fun H locs la hP hS hL => lv_icmp_ne hx hb hd hl (fun q => hK _ _ _ _ _ (h.1 q) H locs la hP hS hL) (fun q => hrec _ _ _ _ (h.2 q) H locs la hP hS hL)
    | lt => exact fun H locs la hP hS hL => lv_icmp_lt hx hb hd hl (fun q => hK _ _ _ _ _ (h.1 q) H locs la hP hS hL) (fun q => hrec _ _ _ _ (h.2 q) H locs la hP hS hL)
    | ge => exact fun H locs la hP hS hL => lv_icmp_ge hx hb hd hl (fun q => hK _ _ _ _ _ (h.1 q) H locs la hP hS hL) (fun q => hrec _ _ _ _ (h.2 q) H locs la hP hS hL)
    | gt => exact fun H locs la hP hS hL => lv_icmp_gt hx hb hd hl (fun q => hK _ _ _ _ _ (h.1 q) H locs la hP hS hL) (fun q => hrec _ _ _ _ (h.2 q) H locs la hP hS hL)
    | le => exact fun H locs la hP hS hL => lv_icmp_le hx hb hd hl (fun q => hK _ _ _ _ _ (h.1 q) H locs la hP hS hL) (fun q => hrec _ _ _ _ (h.2 q) H locs la hP hS hL)
  | tableswitch dflt lo hi offs =>
    obtain ⟨x, r, rfl, h1, h2⟩ := gj_i1_s h
    obtain ⟨l1, l2, l3⟩ := hl
    intro H locs la hP hS hL
    by_cases hq : x.toInt < lo ∨ hi < x.toInt
    · exact lv_tableOut (tgt := ((pc : Int) + dflt).toNat) hx hb hd hq (by rw [Int.toNat_of_nonneg l1]) (hK _ _ _ _ _ (h2 hq) H locs la hP hS hL)
    · have q1 : ¬ x.toInt < lo := fun z => hq (Or.inl z)
      have q2 : ¬ hi < x.toInt := fun z => hq (Or.inr z)
      have hj : (x.toInt - lo).toNat < offs.toList.length := by rw [Array.length_toList]; omega
      obtain ⟨off, ho⟩ : ∃ off, offs.toList[(x.toInt - lo).toNat]? = some off := ⟨_, List.getElem?_eq_getElem hj⟩
      have k := gj_sw_i offs.toList lo (x.toInt - lo).toNat off h1 ho (by omega)
      exact lv_tableIn (off := off) (tgt := ((pc : Int) + off).toNat) hx hb hd q1 q2 (by rw [← Array.getElem?_toList]; exact ho) (by rw [Int.toNat_of_nonneg (l2 off (List.mem_of_getElem? ho))]) (hK _ _ _ _ _ k H locs la hP hS hL)
  | ireturn =>
    have hn : n = 1 := hn
    subst hn
    simp only [gj_step] at h
    split at h
    · rename_i x
      intro H locs la hP hS hL
      rcases hl with ⟨rfl, hl⟩ | ⟨rfl, hl⟩ | ⟨rfl, hl⟩ | ⟨rfl, hl⟩
      · exact hT (some (.int x)) SI SJ H locs la pc _ h hP hS hd (Or.inl ⟨rfl, x, _, rfl, hl, rfl⟩)
      · obtain ⟨h01, h⟩ : (x = 0 ∨ x = 1) ∧ Q (some (.int x)) SI SJ := h
        exact hT (some (.int x)) SI SJ H locs la pc _ h hP hS hd (Or.inl ⟨rfl, x, _, rfl, hl, by rcases h01 with rfl | rfl <;> rfl⟩)
      · obtain ⟨h01, h⟩ : narrow .char (.int x) = .int x ∧ Q (some (.int x)) SI SJ := h
        exact hT (some (.int x)) SI SJ H locs la pc _ h hP hS hd (Or.inl ⟨rfl, x, _, rfl, hl, h01⟩)
      · obtain ⟨h01, h⟩ : narrow .byte (.int x) = .int x ∧ Q (some (.int x)) SI SJ := h
        exact hT (some (.int x)) SI SJ H locs la pc _ h hP hS hd (Or.inl ⟨rfl, x, _, rfl, hl, h01⟩)
    · exact h.elim
  | lreturn =>
    have hn : n = 1 := hn
    subst hn
    simp only [gj_step] at h
    split at h
    · rename_i x
      intro H locs la hP hS hL
      exact hT (some (.long x)) SI SJ H locs la pc _ h hP hS hd (Or.inr (Or.inl ⟨rfl, x, rfl, hl⟩))
    · exact h.elim
  | return_ =>
    have hn : n = 1 := hn
    subst hn
    simp only [gj_step] at h
    split at h
    · intro H locs la hP hS hL
      exact hT none SI SJ H locs la pc _ h hP hS hd (Or.inr (Or.inr ⟨rfl, rfl, hl⟩))
    · exact h.elim
  | getfield idx =>
    exact gj_getf_s hcl F hok2 hrec h
  | putfield idx =>
    exact gj_putf_s hcl F hok2 hrec h
  | invokestatic idx =>
    exact gj_stat_s hcl F hok2 hrec h
  | getstatic idx =>
    have hn : n = 3 := hn
    subst hn
    simp only [gj_step] at h
    rcases hl with ⟨h4, hl⟩ | ⟨rfl, hl⟩ | ⟨rfl, hl⟩
    · rw [show Nat.blt ax 4 = true from Nat.ble_eq_true_of_le h4] at h
      have h : rec ls (.ref (128 + ax) :: st) SI SJ := h
      intro H locs la hP hS hL
      have k := hrec _ _ _ _ h H locs la hP hS hL
      have k : W p E.1 e X.1 s m args below meth c H locs X.2.1 X.2.2.1 X.2.2.2 (F0 m (pc + 3) la (.ref (gj_ad E (128 + ax)) :: st.map (gj_rv E))) := k
      have hb2 : Nat.blt (128 + ax) 128 = false := by
        cases hq : Nat.blt (128 + ax) 128
        · rfl
        · have : 128 + ax < 128 := Nat.le_of_ble_eq_true hq
          omega
      rw [gj_ad_hi hb2, show 128 + ax - 128 = ax by omega] at k
      rcases hl with hl | hl
      · exact va_gets hx hb (hSt.2.2.2.1 ax h4) hS hown (hts _ hl) (fun _ h9 => h9) hd k
      · exact va_getsN hx hb (hSt.2.2.2.1 ax h4) hS hown (va_Nw.use rfl (hSt.2.2.2.2.2.2 _ hl)) (fun _ h9 => h9) hd k
    · have h : rec ls (.int 1 :: st) SI SJ := h
      intro H locs la hP hS hL
      exact va_gets hx hb hSt.2.2.2.2.1.1 hS hown (hts _ hl) (fun _ h9 => h9) hd (hrec _ _ _ _ h H locs la hP hS hL)
    · have h : rec ls (.null :: st) SI SJ ∧ rec ls (.ref 143 :: st) SI SJ := h
      intro H locs la hP hS hL
      rcases hSt.2.2.2.2.1.2 with z | z
      · exact va_gets hx hb z hS hown (hts _ hl) (fun _ h9 => h9) hd (hrec _ _ _ _ h.1 H locs la hP hS hL)
      · exact va_gets hx hb z hS hown (hts _ hl) (fun _ h9 => h9) hd (hrec _ _ _ _ h.2 H locs la hP hS hL)
  | iaload =>
    have hn : n = 1 := hn
    subst hn
    exact gj_ald_s F (Or.inl ⟨rfl, rfl⟩) hd hrec h
  | baload =>
    have hn : n = 1 := hn
    subst hn
    exact gj_ald_s F (Or.inr ⟨rfl, rfl⟩) hd hrec h
  | arraylength =>
    have hn : n = 1 := hn
    subst hn
    exact gj_alen_s F hd hrec h
  | laload =>
    have hn : n = 1 := hn
    subst hn
    obtain ⟨j, a, r, rfl, h9⟩ := gj_ir_s h
    clear h
    obtain ⟨y, hom, ho, hin, h⟩ := gj_lald_i h9
    intro H locs la hP hS hL
    show W p E.1 e X.1 s m args below meth c H locs X.2.1 X.2.2.1 X.2.2.2 (F0 m pc la (.int j :: .ref (gj_ad E a) :: r.map (gj_rv E)))
    rw [gj_ad_lo ho]
    exact va_lald hx hb hK0 hP a 2 (gj_arr2 y hom) rfl hin hd (hrec _ _ _ _ h H locs la hP hS hL)
  | iastore =>
    have hn : n = 1 := hn
    subst hn
    simp only [gj_step] at h
    split at h
    · rename_i x j a r
      obtain ⟨y, hom, ho, hin, h⟩ := gj_iast_i h
      intro H locs la hP hS hL
      show W p E.1 e X.1 s m args below meth c H locs X.2.1 X.2.2.1 X.2.2.2 (F0 m pc la (.int x :: .int j :: .ref (gj_ad E a) :: r.map (gj_rv E)))
      rw [gj_ad_lo ho]
      refine va_iast hx hb hK0 hP (gj_ap E om SI SJ) hS a 0 (gj_arr0 y hom) rfl hin hd (fun H1 locs1 hP1 _ hS1 => ?_)
      have e1 := gj_wrI (E := E) (om := om) (SI := SI) (SJ := SJ) (a := a) (k := j.toNatClampNeg) (x := x) y (Or.inl rfl)
      rw [if_pos rfl] at e1
      rw [e1] at hP1
      exact hrec _ _ _ _ h H1 locs1 la hP1 hS1 hL
    · exact h.elim
  | bastore =>
    have hn : n = 1 := hn
    subst hn
    simp only [gj_step] at h
    split at h
    · rename_i x j a r
      obtain ⟨y, hom, ho, hin, h⟩ := gj_iast_i h
      intro H locs la hP hS hL
      show W p E.1 e X.1 s m args below meth c H locs X.2.1 X.2.2.1 X.2.2.2 (F0 m pc la (.int x :: .int j :: .ref (gj_ad E a) :: r.map (gj_rv E)))
      rw [gj_ad_lo ho]
      refine va_bast hx hb hK0 hP (gj_ap E om SI SJ) hS a 1 (gj_arr1 y hom) rfl hin hd (fun H1 locs1 hP1 _ hS1 => ?_)
      have e1 := gj_wrI (E := E) (om := om) (SI := SI) (SJ := SJ) (a := a) (k := j.toNatClampNeg) (x := x.toInt8.toInt32) y (Or.inr rfl)
      rw [if_neg (by decide)] at e1
      rw [vp_nar_byte, e1] at hP1
      exact hrec _ _ _ _ h H1 locs1 la hP1 hS1 hL
    · exact h.elim
  | lastore =>
    have hn : n = 1 := hn
    subst hn
    simp only [gj_step] at h
    split at h
    · rename_i x j a r
      obtain ⟨y, hom, ho, hin, h⟩ := gj_iast_i h
      intro H locs la hP hS hL
      show W p E.1 e X.1 s m args below meth c H locs X.2.1 X.2.2.1 X.2.2.2 (F0 m pc la (.long x :: .int j :: .ref (gj_ad E a) :: r.map (gj_rv E)))
      rw [gj_ad_lo ho]
      refine va_last hx hb hK0 hP (gj_ap E om SI SJ) hS a 2 (gj_arr2 y hom) rfl hin hd (fun H1 locs1 hP1 _ hS1 => ?_)
      rw [gj_wrJ y] at hP1
      exact hrec _ _ _ _ h H1 locs1 la hP1 hS1 hL
    · exact h.elim
  | invokevirtual idx =>
    have hn : n = 3 := hn
    subst hn
    obtain ⟨l0, l1, l2, l3, l4⟩ := hl
    obtain ⟨B, r, rfl, hB, h9⟩ := gj_pop_s _ _ _ _ h
    clear h
    rw [List.append_nil] at h9
    obtain ⟨h1, h⟩ := gj_if h9
    clear h9
    simp only [Bool.and_eq_true] at h1
    have hcat : gj_cat r ≤ 8 := Nat.le_of_ble_eq_true h1.1
    have hrcv := h1.2
    unfold gj_rcv at hrcv
    split at hrcv
    · rename_i b As
      have e1 : (Value.ref b :: As).reverse ++ r = As.reverse ++ .ref b :: r := by simp
      rw [e1]
      refine gj_callV_s F (mt := mt) (mid := ax / 100 % 1000) (b := b) ?_ hcat h l2 l3 hd hrec ?_
      · have : As.length = ax % 100 - 1 := by rw [← hB]; simp
        rw [this]; exact l1
      · intro H locs hP hS
        cases hbb : Nat.blt b 128
        · simp only [hbb, cond_false, Bool.and_eq_true] at hrcv
          have c50 : ax / 100000 = 50 := Nat.eq_of_beq_eq_true hrcv.1
          have q1 : 132 ≤ b := Nat.le_of_ble_eq_true hrcv.2.1
          have q2 : b < 136 := Nat.le_of_ble_eq_true hrcv.2.2
          have hC : (mt (ax / 100 % 1000)).1.cls = "java/lang/String" := by
            rcases l4 with ⟨q, hq, -⟩ | ⟨-, q⟩
            · rw [c50] at hq; simp [vwCl] at hq
            · exact q
          rw [gj_ad_hi hbb, hC]
          have key : ∀ t : Nat, 132 ≤ t → t < 136 → t - 132 < 4 ∧ 4 + (t - 132) = t - 128 := by intro t h1 h2; omega
          have hO := (hSt.2.2.1 (b - 132) (key b q1 q2).1).1
          rw [(key b q1 q2).2] at hO
          obtain ⟨cell, z1, z2, z3, -⟩ := hO.kept (fun a h1 h2 => hS.2.1 a h1 h2)
          exact ⟨cell, z1, z2, z3⟩
        · simp only [hbb, cond_true, Bool.and_eq_true] at hrcv
          have y1 : (gj_Y b).1 = 3 := Nat.eq_of_beq_eq_true hrcv.1
          have y2 : (gj_Y b).2 = ax / 100000 := Nat.eq_of_beq_eq_true hrcv.2.1
          have hom : b < om.1 := Nat.le_of_ble_eq_true hrcv.2.2
          rw [gj_ad_lo hbb]
          rcases l4 with ⟨q, hq, hC⟩ | ⟨c50, -⟩
          · rw [← hC]
            exact va_recv hK0 hP hq (q0 := b) (fs := gj_fs E om SI SJ b (ax / 100000)) (by rw [gj_at hom, gj_cellO y1, y2])
          · exfalso
            obtain ⟨r0, hr0, -⟩ := hP b _ (gj_at hom |>.trans (by rw [gj_cellO y1, y2, c50]))
            simp [vwCl] at hr0
    · cases hrcv
  | _ => exact False.elim h
end GjU
