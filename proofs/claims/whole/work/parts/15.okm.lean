/-! 15: a check that says yes is right; every method passes -/
theorem gj_fok_of {oi idx ax : Nat} {C : String} (ho : gj_on.getD oi "" = C) (hi : idx < 10000) (h : (Nat.blt (ax / 100) 12 && Nat.blt (ax % 100) (gj_nf (ax / 100)) && (gj_wF.contains ((oi * 10000 + idx) * 10000 + ax) && Nat.beq oi (ax / 100) || gj_wG.contains ((oi * 10000 + idx) * 10000 + ax) && !Nat.beq oi (ax / 100))) = true) : gj_fok C idx (ax / 100) (ax % 100) := by
  simp only [Bool.and_eq_true, Bool.or_eq_true, Bool.not_eq_true'] at h
  obtain ⟨⟨h1, h2⟩, h3⟩ := h
  have h1 : ax / 100 < 12 := Nat.le_of_ble_eq_true h1
  have h2 : ax % 100 < gj_nf (ax / 100) := Nat.le_of_ble_eq_true h2
  have e1 : ((oi * 10000 + idx) * 10000 + ax) / 100000000 = oi := by omega
  have e2 : ((oi * 10000 + idx) * 10000 + ax) / 10000 % 10000 = idx := by omega
  have e3 : ((oi * 10000 + idx) * 10000 + ax) / 100 % 100 = ax / 100 := by omega
  have e4 : ((oi * 10000 + idx) * 10000 + ax) % 100 = ax % 100 := by omega
  have hv : vwCl[ax / 100]? = some (gj_cw (ax / 100)) := by
    unfold gj_cw
    rw [List.getD_eq_getElem?_getD]
    have : ax / 100 < vwCl.length := h1
    rw [List.getElem?_eq_getElem this]; rfl
  have hN := (gj_clT _ _ hv).2.2.2.1
  refine ⟨gj_cw (ax / 100), hv, by rw [hN]; exact h2, ?_⟩
  rcases h3 with ⟨h3, h4⟩ | ⟨h3, h4⟩
  · have h := gj_wF_in _ (gj_ct h3)
    unfold gj_fw at h
    rw [e1, e2, e3, e4, h4, ho] at h
    exact Or.inl h
  · have h := gj_wG_in _ (gj_ct h3)
    unfold gj_fw at h
    rw [e1, e2, e3, e4, h4, ho] at h
    exact Or.inr h
theorem gj_nP_mt {mid : Nat} (h : mid < 295) : gj_nP mid = (gj_mt mid).1 := by
  unfold gj_nP
  split <;> first | rfl | omega
theorem gj_mok_of {oi mid idx n : Nat} {M : gj_M} (ho : gj_on.getD oi "" = M.1.cls) (hi : idx < 10000) (h : gj_mb oi M mid idx n = true) : gj_mok M (gj_mt mid) idx n ∧ mid < 295 := by
  unfold gj_mb at h
  simp only [Bool.and_eq_true, Bool.or_eq_true] at h
  obtain ⟨⟨⟨⟨⟨⟨h0, h1⟩, h2⟩, h3⟩, h4⟩, h5⟩, h6⟩ := h
  have h0 : mid < 295 := Nat.le_of_ble_eq_true h0
  have hm := gj_mdf mid h0
  unfold gj_mdb at hm
  simp only [Bool.and_eq_true, decide_eq_true_eq] at hm
  obtain ⟨⟨m1, m2⟩, m3⟩ := hm
  refine ⟨⟨?_, gj_wC_in _ (gj_ct h2), by rw [← m1]; exact gj_wN_in _ (gj_ct h3), ⟨m2.1, m2.2, by rw [m3, Nat.eq_of_beq_eq_true h4]⟩, Nat.le_of_ble_eq_true h5, Nat.le_of_ble_eq_true h6⟩, h0⟩
  rcases h1 with h1 | h1
  · have h := gj_wM_in _ (gj_ct h1)
    unfold gj_mw at h
    rw [show ((oi * 10000 + idx) * 1000 + mid) * 10 / 100000000 = oi by omega, show ((oi * 10000 + idx) * 1000 + mid) * 10 / 10000 % 10000 = idx by omega, show ((oi * 10000 + idx) * 1000 + mid) * 10 / 10 % 1000 = mid by omega, show ((oi * 10000 + idx) * 1000 + mid) * 10 % 10 = 0 by omega, gj_nP_mt h0, ho] at h
    exact Or.inl h
  · have h := gj_wO_in _ (gj_ct h1)
    unfold gj_mw at h
    rw [show (((oi * 10000 + idx) * 1000 + mid) * 10 + 1) / 100000000 = oi by omega, show (((oi * 10000 + idx) * 1000 + mid) * 10 + 1) / 10000 % 10000 = idx by omega, show (((oi * 10000 + idx) * 1000 + mid) * 10 + 1) / 10 % 1000 = mid by omega, show (((oi * 10000 + idx) * 1000 + mid) * 10 + 1) % 10 = 1 by omega, gj_nP_mt h0, ho] at h
    exact Or.inr h
theorem gj_iMath : Cond.initialized "java/lang/Math" ∈ gj_tb := gj_ch1 (w := Cond.initialized "java/lang/Math") (List.mem_of_getElem? (i := 13) rfl) rfl
theorem gj_iSys : Cond.initialized "java/lang/System" ∈ gj_tb := gj_ch1 (w := Cond.initialized "java/lang/System") (List.mem_of_getElem? (i := 15) rfl) rfl
theorem gj_nat_of {oi mid idx : Nat} {M : gj_M} {C : String} (hC : Cond.initialized C ∈ gj_tb) (hmid : mid < 1000) (ho : gj_on.getD oi "" = M.1.cls) (hi : idx < 10000) (h : gj_nb2 oi M mid idx = true) : gj_nat M idx (gj_nP mid) C := by
  unfold gj_nb2 at h
  simp only [Bool.and_eq_true] at h
  obtain ⟨⟨⟨h1, h2⟩, h3⟩, h4⟩ := h
  refine ⟨?_, gj_wT_in _ (gj_ct h2), hC, Nat.le_of_ble_eq_true h3, Nat.le_of_ble_eq_true h4⟩
  have h := gj_wM_in _ (gj_ct h1)
  unfold gj_mw at h
  rw [show ((oi * 10000 + idx) * 1000 + mid) * 10 / 100000000 = oi by omega, show ((oi * 10000 + idx) * 1000 + mid) * 10 / 10000 % 10000 = idx by omega, show ((oi * 10000 + idx) * 1000 + mid) * 10 / 10 % 1000 = mid by omega, show ((oi * 10000 + idx) * 1000 + mid) * 10 % 10 = 0 by omega, ho] at h
  exact h
theorem gj_cMax : Cond.code Lib.Math.max.name Lib.Math.max.code 2 (some .int) ∈ gj_tb := gj_ch3 (List.mem_of_getElem? (i := 126) (by decide +kernel)) rfl
theorem gj_cMin : Cond.code Lib.Math.min.name Lib.Math.min.code 2 (some .int) ∈ gj_tb := gj_ch3 (List.mem_of_getElem? (i := 67) (by decide +kernel)) rfl
theorem gj_cAbs : Cond.code Lib.Math.abs.name Lib.Math.abs.code 1 (some .int) ∈ gj_tb := gj_ch4 (List.mem_of_getElem? (i := 210) (by decide +kernel)) rfl
theorem gj_cAbsL : Cond.code Lib.MathLoose.abs_long.x Lib.MathLoose.abs_long.code 2 (some .long) ∈ gj_tb := gj_ch5 (List.mem_of_getElem? (i := 100) (by decide +kernel)) rfl
theorem gj_cCopy : Cond.native arraycopyName ∈ gj_tb := gj_ch3 (List.mem_of_getElem? (i := 141) (by decide +kernel)) rfl
theorem gj_kof {oi idx v b : Nat} (hi : idx < 10000) (hb : b < 10) (h : gj_wK.contains ((oi * 10000 + idx) * 10 + b, v) = true) : (bif Nat.beq b 0 then Cond.constant (gj_on.getD oi "") idx (Int32.ofNat v) else Cond.constantLong (gj_on.getD oi "") idx (Int64.ofNat v)) ∈ gj_tb := by
  have h := gj_wK_in _ (show ((oi * 10000 + idx) * 10 + b, v) ∈ gj_wK by simpa using h)
  unfold gj_kw at h
  dsimp only at h
  rw [show ((oi * 10000 + idx) * 10 + b) / 100000 = oi by omega, show ((oi * 10000 + idx) * 10 + b) / 10 % 10000 = idx by omega, show ((oi * 10000 + idx) * 10 + b) % 10 = b by omega] at h
  exact h
theorem gj_sof {oi idx a : Nat} (hi : idx < 10000) (ha : a < 10000) (h : gj_wS.contains ((oi * 10000 + idx) * 10000 + a) = true) : gj_sw2 ((oi * 10000 + idx) * 10000 + a) ∈ gj_tb ∧ ((oi * 10000 + idx) * 10000 + a) / 100000000 = oi ∧ ((oi * 10000 + idx) * 10000 + a) / 10000 % 10000 = idx ∧ ((oi * 10000 + idx) * 10000 + a) % 10000 = a := ⟨gj_wS_in _ (gj_ct h), by omega, by omega, by omega⟩
set_option maxHeartbeats 4000000 in
theorem gj_lkb_s {oi : Nat} {M : gj_M} {pc ax : Nat} {i : Instr} (ho : gj_on.getD oi "" = M.1.cls) (h : gj_lkb oi M pc i ax = true) : gj_lk gj_mt M pc i ax := by
  cases i with
  | ldc idx =>
    simp only [gj_lkb, Bool.and_eq_true, Bool.or_eq_true] at h
    obtain ⟨hi, h⟩ := h
    have hi : idx < 10000 := Nat.le_of_ble_eq_true hi
    rcases h with ⟨h1, h2⟩ | ⟨⟨h1, h2, h3⟩, h4⟩
    · have := gj_kof (b := 0) hi (by decide) h2
      rw [ho] at this
      exact Or.inl ⟨Nat.le_of_ble_eq_true h1, this⟩
    · have h1 : oi = 3 := Nat.eq_of_beq_eq_true h1
      have h2 : 4294967428 ≤ ax := Nat.le_of_ble_eq_true h2
      have h3 : ax < 4294967432 := Nat.le_of_ble_eq_true h3
      subst h1
      refine Or.inr ⟨ax - 4294967428, by omega, by omega, by rw [← ho]; rfl, Nat.eq_of_beq_eq_true h4⟩
  | ldc_w idx =>
    simp only [gj_lkb, Bool.and_eq_true] at h
    have := gj_kof (b := 0) (Nat.le_of_ble_eq_true h.1) (by decide) h.2
    rw [ho] at this
    exact this
  | ldc2_w idx =>
    simp only [gj_lkb, Bool.and_eq_true] at h
    have := gj_kof (b := 1) (Nat.le_of_ble_eq_true h.1) (by decide) h.2
    rw [ho] at this
    exact this
  | goto off => exact (of_decide_eq_true h : (pc : Int) + off = (ax : Int))
  | ifCond c off => exact (of_decide_eq_true h : (pc : Int) + off = (ax : Int))
  | if_icmp c off => exact (of_decide_eq_true h : (pc : Int) + off = (ax : Int))
  | tableswitch dflt lo hi offs =>
    simp only [gj_lkb, Bool.and_eq_true, decide_eq_true_eq, List.all_eq_true] at h
    exact ⟨h.1.1, h.1.2, h.2⟩
  | ireturn =>
    simp only [gj_lkb, Bool.and_eq_true, Bool.or_eq_true, decide_eq_true_eq] at h
    rcases h with ((h | h) | h) | h
    · exact Or.inl ⟨Nat.eq_of_beq_eq_true h.1, h.2⟩
    · exact Or.inr (Or.inl ⟨Nat.eq_of_beq_eq_true h.1, h.2⟩)
    · exact Or.inr (Or.inr (Or.inl ⟨Nat.eq_of_beq_eq_true h.1, h.2⟩))
    · exact Or.inr (Or.inr (Or.inr ⟨Nat.eq_of_beq_eq_true h.1, h.2⟩))
  | lreturn => exact (of_decide_eq_true h : gj_ret M = some .long)
  | return_ => exact (of_decide_eq_true h : gj_ret M = none)
  | getfield idx =>
    have h : (Nat.blt idx 10000 && (_ || (Nat.beq ax 9000 && _) || (Nat.beq ax 9001 && _))) = true := h
    rw [Bool.and_eq_true, Bool.or_eq_true, Bool.or_eq_true] at h
    obtain ⟨hi, h⟩ := h
    have hi : idx < 10000 := Nat.le_of_ble_eq_true hi
    rcases h with (h | h) | h
    · exact Or.inl (gj_fok_of ho hi h)
    · rw [Bool.and_eq_true] at h
      obtain ⟨h1, e1, e2, e3⟩ := gj_sof hi (by decide) h.2
      unfold gj_sw2 at h1
      rw [e1, e2, e3, ho] at h1
      exact Or.inr (Or.inl ⟨Nat.eq_of_beq_eq_true h.1, h1⟩)
    · rw [Bool.and_eq_true] at h
      obtain ⟨h1, e1, e2, e3⟩ := gj_sof hi (by decide) h.2
      unfold gj_sw2 at h1
      rw [e1, e2, e3, ho] at h1
      exact Or.inr (Or.inr ⟨Nat.eq_of_beq_eq_true h.1, h1⟩)
  | putfield idx =>
    have h : (Nat.blt idx 10000 && _) = true := h
    rw [Bool.and_eq_true] at h
    exact gj_fok_of ho (Nat.le_of_ble_eq_true h.1) h.2
  | getstatic idx =>
    simp only [gj_lkb, Bool.and_eq_true, Bool.or_eq_true] at h
    obtain ⟨hi, h⟩ := h
    have hi : idx < 10000 := Nat.le_of_ble_eq_true hi
    rcases h with (⟨h4, h⟩ | ⟨h4, h⟩) | ⟨h4, h⟩
    · have h4 : ax < 4 := Nat.le_of_ble_eq_true h4
      refine Or.inl ⟨h4, ?_⟩
      rcases h with h | h
      · obtain ⟨h1, e1, e2, e3⟩ := gj_sof hi (by omega) h
        unfold gj_sw2 at h1
        rw [e1, e2, e3, ho] at h1
        refine Or.inl ?_
        clear h e1 e2 e3
        rcases (show ax = 0 ∨ ax = 1 ∨ ax = 2 ∨ ax = 3 by omega) with rfl | rfl | rfl | rfl
        · exact h1
        · exact h1
        · exact h1
        · exact h1
      · have h1 := gj_wZ_in _ (gj_ct h)
        unfold gj_sw3 at h1
        rw [show ((oi * 10000 + idx) * 10000 + ax) / 100000000 = oi by omega, show ((oi * 10000 + idx) * 10000 + ax) / 10000 % 10000 = idx by omega, show ((oi * 10000 + idx) * 10000 + ax) % 10000 = ax by omega, ho] at h1
        exact Or.inr h1
    · obtain ⟨h1, e1, e2, e3⟩ := gj_sof hi (by decide) h
      unfold gj_sw2 at h1
      rw [e1, e2, e3, ho] at h1
      exact Or.inr (Or.inl ⟨Nat.eq_of_beq_eq_true h4, h1⟩)
    · obtain ⟨h1, e1, e2, e3⟩ := gj_sof hi (by decide) h
      unfold gj_sw2 at h1
      rw [e1, e2, e3, ho] at h1
      exact Or.inr (Or.inr ⟨Nat.eq_of_beq_eq_true h4, h1⟩)
  | invokevirtual idx =>
    simp only [gj_lkb, Bool.and_eq_true, Bool.or_eq_true] at h
    obtain ⟨⟨⟨⟨⟨hi, h1⟩, h2⟩, h3⟩, h4⟩, h5⟩ := h
    obtain ⟨h2, hm⟩ := gj_mok_of ho (Nat.le_of_ble_eq_true hi) h2
    refine ⟨Nat.le_of_ble_eq_true h1, h2, gj_wI_in _ (gj_ct h3), gj_wL_in _ (gj_ct h4), ?_⟩
    have hq := gj_mdf _ hm
    unfold gj_mdb at hq
    simp only [Bool.and_eq_true, decide_eq_true_eq] at hq
    obtain ⟨⟨m1, -⟩, -⟩ := hq
    rcases h5 with ⟨h5, h6⟩ | ⟨h5, h6⟩
    · have h5 := Nat.eq_of_beq_eq_true h5
      have h6 : ax / 100000 < 12 := Nat.le_of_ble_eq_true h6
      rw [← h5] at m1
      refine Or.inl ?_
      rw [← m1]
      generalize ax / 100000 = t at h6
      match t, h6 with
      | 0, _ => exact ⟨_, rfl, rfl⟩
      | 1, _ => exact ⟨_, rfl, rfl⟩
      | 2, _ => exact ⟨_, rfl, rfl⟩
      | 3, _ => exact ⟨_, rfl, rfl⟩
      | 4, _ => exact ⟨_, rfl, rfl⟩
      | 5, _ => exact ⟨_, rfl, rfl⟩
      | 6, _ => exact ⟨_, rfl, rfl⟩
      | 7, _ => exact ⟨_, rfl, rfl⟩
      | 8, _ => exact ⟨_, rfl, rfl⟩
      | 9, _ => exact ⟨_, rfl, rfl⟩
      | 10, _ => exact ⟨_, rfl, rfl⟩
      | 11, _ => exact ⟨_, rfl, rfl⟩
    · have h6 := Nat.eq_of_beq_eq_true h6
      rw [h6] at m1
      exact Or.inr ⟨Nat.eq_of_beq_eq_true h5, m1.symm⟩
  | invokestatic idx =>
    have h : (Nat.blt idx 10000 && _) = true := h
    rw [Bool.and_eq_true] at h
    obtain ⟨hi, h⟩ := h
    have hi : idx < 10000 := Nat.le_of_ble_eq_true hi
    simp only [gj_lk]
    split at h
    · rename_i hm; simp only [hm]; exact ⟨gj_nat_of gj_iMath (by decide) ho hi h, gj_cMax⟩
    · rename_i hm; simp only [hm]; exact ⟨gj_nat_of gj_iMath (by decide) ho hi h, gj_cMin⟩
    · rename_i hm; simp only [hm]; exact ⟨gj_nat_of gj_iMath (by decide) ho hi h, gj_cAbs⟩
    · rename_i hm; simp only [hm]; exact ⟨gj_nat_of gj_iMath (by decide) ho hi h, gj_cAbsL⟩
    · rename_i hm; simp only [hm]; exact ⟨gj_nat_of gj_iSys (by decide) ho hi h, gj_cCopy⟩
    · rename_i hm; simp only [hm]
    · rename_i mid h1 h2 h3 h4 h5 h6
      rw [Bool.and_eq_true] at h
      obtain ⟨ha, hm⟩ := gj_mok_of ho hi h.1
      have hT := gj_wT_in _ (gj_ct h.2)
      rw [gj_nP_mt hm] at hT
      split
      · rename_i q; exact absurd q h1
      · rename_i q; exact absurd q h2
      · rename_i q; exact absurd q h3
      · rename_i q; exact absurd q h4
      · rename_i q; exact absurd q h5
      · trivial
      · exact ⟨ha, hT⟩
  | _ => trivial
theorem gj_ckM_s {oi : Nat} {M : gj_M} (ho : gj_on.getD oi "" = M.1.cls) (h : gj_ckM oi M = true) : gj_okM gj_mt M := by
  unfold gj_ckM at h
  simp only [Bool.and_eq_true, decide_eq_true_eq] at h
  refine ⟨h.1.1, h.1.2, fun q hq => ?_⟩
  have h1 := List.all_eq_true.mp h.2 q hq
  unfold gj_ck1 at h1
  rw [Bool.and_eq_true, Bool.and_eq_true, decide_eq_true_eq] at h1
  obtain ⟨⟨h1, h2⟩, h3⟩ := h1
  refine ⟨h1, ?_, gj_lkb_s ho h3⟩
  unfold gj_len
  split at h2
  · rename_i k hk
    rw [hk]; exact Nat.eq_of_beq_eq_true h2
  · rename_i hk
    rw [hk]; trivial
