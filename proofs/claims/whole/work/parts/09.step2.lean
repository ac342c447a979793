/-! 09: THE PURE MACHINE IS SOUND (part 4): every instruction -/
section GjT
variable {E : gj_E} {om : gj_Om} {mt : Nat → gj_M} {M : gj_M} {p : Program} {e : Env} {s : State} {m : MethodId} {args : Array Value} {below : List Frame} {meth : Method} {c : Code} {Q : Option Value → gj_I → gj_J → Prop} {X : gj_X}
variable {K : Nat → gj_O → List Value → gj_I → gj_J → Prop} {rec : gj_O → List Value → gj_I → gj_J → Prop} {pc n ax : Nat}
theorem gj_lo {E : gj_E} {om : gj_Om} {SI : gj_I} {SJ : gj_J} {H : Heap} (hP : va_P (gj_D E) vwCl (gj_Wd E om SI SJ) H) (h : gj_b E ≤ H.size) : gj_b E + om.1 ≤ H.size := by
  rcases Nat.eq_zero_or_pos om.1 with h0 | h0
  · omega
  · have := (hP (om.1 - 1) _ (gj_at (by omega))).lt
    have h2 : gj_b E + (om.1 - 1) < H.size := this
    omega
theorem gj_ad_lo {E : gj_E} {o : Nat} (h : Nat.blt o 128 = true) : gj_ad E o = gj_b E + o := by unfold gj_ad; rw [h]; rfl
theorem gj_ad_hi {E : gj_E} {o : Nat} (h : Nat.blt o 128 = false) : gj_ad E o = gj_sa E (o - 128) := by unfold gj_ad; rw [h]; rfl
theorem gj_arr0 {E : gj_E} {om : gj_Om} {SI : gj_I} {SJ : gj_J} {a : Nat} (h : (gj_Y a).1 = 0) (hom : a < om.1) : (gj_Wd E om SI SJ)[a]? = some (gj_b E + a, .inl (gj_cI E, (gj_Y a).2, .inl (SI a))) := by rw [gj_at hom]; unfold gj_cell; rw [h]; rfl
theorem gj_arr1 {E : gj_E} {om : gj_Om} {SI : gj_I} {SJ : gj_J} {a : Nat} (h : (gj_Y a).1 = 1) (hom : a < om.1) : (gj_Wd E om SI SJ)[a]? = some (gj_b E + a, .inl (gj_cB E, (gj_Y a).2, .inl (SI a))) := by rw [gj_at hom]; unfold gj_cell; rw [h]; rfl
theorem gj_arr2 {E : gj_E} {om : gj_Om} {SI : gj_I} {SJ : gj_J} {a : Nat} (h : (gj_Y a).1 = 2) (hom : a < om.1) : (gj_Wd E om SI SJ)[a]? = some (gj_b E + a, .inl (gj_cJ E, (gj_Y a).2, .inr (.inl (SJ a)))) := by rw [gj_at hom]; unfold gj_cell; rw [h]; rfl
set_option maxHeartbeats 4000000 in
theorem gj_ald_s (F : gj_F E om M X p s m args meth c) {i : Instr} {kd : Nat} (hi : (i = .iaload ∧ kd = 0) ∨ (i = .baload ∧ kd = 1)) (hd : decode (gj_cc M) pc = .ok (i, 1)) (hrec : ∀ ls st SI SJ, rec ls st SI SJ → gj_G E om M p e s m args below meth c X (pc + 1) ls st SI SJ) {ls : gj_O} {st : List Value} {SI : gj_I} {SJ : gj_J} (h0 : gj_ir st (fun i a r => gj_iald E om SI kd a (fun n f => vp_in i n ∧ rec ls (.int (f i.toNatClampNeg) :: r) SI SJ))) : gj_G E om M p e s m args below meth c X pc ls st SI SJ := by
  obtain ⟨hx, hb, hml, hown, hts, hr, hlo, hK0, hSt, hsz, hXf, hXl, hXc, hXs, hXb⟩ := F
  obtain ⟨j, a, r, rfl, h⟩ := gj_ir_s h0
  intro H locs la hP hS hL
  unfold gj_iald at h
  obtain ⟨h1, hin, h⟩ := gj_if h
  simp only [Bool.and_eq_true, Bool.or_eq_true] at h1
  have hkd : (gj_arn E a).1 = kd := Nat.eq_of_beq_eq_true h1.1
  show W p E.1 e X.1 s m args below meth c H locs X.2.1 X.2.2.1 X.2.2.2 (F0 m pc la (.int j :: .ref (gj_ad E a) :: r.map (gj_rv E)))
  cases ho : Nat.blt a 128
  · rw [gj_ad_hi ho]
    unfold gj_arn at hkd hin
    unfold gj_arf at h
    simp only [ho, cond_false] at hkd hin h
    have k := hrec _ _ _ _ h H locs la hP hS hL
    rcases hi with ⟨rfl, rfl⟩ | ⟨rfl, rfl⟩
    · exact va_ti hx hb (hSt.1 _ hkd) hS hin rfl hd k
    · exact va_tb hx hb (hSt.2.1 _ hkd) hS hin rfl hd k
  · rw [gj_ad_lo ho]
    have hom : a < om.1 := by
      rcases h1.2 with q | q
      · exact Nat.le_of_ble_eq_true q
      · have q1 : a < 128 := Nat.le_of_ble_eq_true ho
        have q2 : 128 ≤ a := Nat.le_of_ble_eq_true q
        exact absurd q1 (Nat.not_lt.mpr q2)
    unfold gj_arn at hkd hin
    unfold gj_arf at h
    rw [ho] at hkd hin h
    have hkd : (gj_Y a).1 = kd := hkd
    have hin : vp_in j (gj_Y a).2 := hin
    have k := hrec _ _ _ _ h H locs la hP hS hL
    rcases hi with ⟨rfl, rfl⟩ | ⟨rfl, rfl⟩
    · exact va_iald hx hb hK0 hP a 0 (gj_arr0 hkd hom) rfl hin hd k
    · exact va_bald hx hb hK0 hP a 1 (gj_arr1 hkd hom) rfl hin hd k
theorem gj_alen_s (F : gj_F E om M X p s m args meth c) (hd : decode (gj_cc M) pc = .ok (.arraylength, 1)) (hrec : ∀ ls st SI SJ, rec ls st SI SJ → gj_G E om M p e s m args below meth c X (pc + 1) ls st SI SJ) {ls : gj_O} {st : List Value} {SI : gj_I} {SJ : gj_J} (h0 : gj_r1 st (fun a r => gj_alen E om a (fun n => rec ls (.int (Int32.ofNat n) :: r) SI SJ))) : gj_G E om M p e s m args below meth c X pc ls st SI SJ := by
  obtain ⟨hx, hb, hml, hown, hts, hr, hlo, hK0, hSt, hsz, hXf, hXl, hXc, hXs, hXb⟩ := F
  obtain ⟨a, r, rfl, h⟩ := gj_r1_s h0
  intro H locs la hP hS hL
  unfold gj_alen at h
  obtain ⟨h1, h⟩ := gj_if h
  simp only [Bool.and_eq_true, Bool.or_eq_true] at h1
  have hkd : (gj_arn E a).1 < 3 := Nat.le_of_ble_eq_true h1.1
  show W p E.1 e X.1 s m args below meth c H locs X.2.1 X.2.2.1 X.2.2.2 (F0 m pc la (.ref (gj_ad E a) :: r.map (gj_rv E)))
  cases ho : Nat.blt a 128
  · rw [gj_ad_hi ho]
    unfold gj_arn at hkd h
    simp only [ho, cond_false] at hkd h
    have hk2 : gj_stk (a - 128) = 0 ∨ gj_stk (a - 128) = 1 := by
      have : ∀ j, j < 13 → gj_stk j < 3 → gj_stk j = 0 ∨ gj_stk j = 1 := by decide
      rcases Nat.lt_or_ge (a - 128) 13 with q | q
      · exact this _ q hkd
      · exfalso
        have : gj_stk (a - 128) = 9 := by
          unfold gj_stk; rw [List.getD_eq_getElem?_getD, List.getElem?_eq_none (by simpa using q)]; rfl
        omega
    have k := hrec _ _ _ _ h H locs la hP hS hL
    rcases hk2 with q | q
    · exact va_tlen hx hb (hSt.1 _ q) hS rfl hd k
    · exact va_tlen hx hb (hSt.2.1 _ q) hS rfl hd k
  · rw [gj_ad_lo ho]
    have hom : a < om.1 := by
      rcases h1.2 with q | q
      · exact Nat.le_of_ble_eq_true q
      · have q1 : a < 128 := Nat.le_of_ble_eq_true ho
        have q2 : 128 ≤ a := Nat.le_of_ble_eq_true q
        exact absurd q1 (Nat.not_lt.mpr q2)
    unfold gj_arn at hkd h
    rw [ho] at hkd h
    have hkd : (gj_Y a).1 < 3 := hkd
    have k := hrec _ _ _ _ h H locs la hP hS hL
    rcases (show (gj_Y a).1 = 0 ∨ (gj_Y a).1 = 1 ∨ (gj_Y a).1 = 2 by omega) with q | q | q
    · exact va_alen hx hb hK0 hP a 0 (gj_arr0 q hom) rfl rfl hd k
    · exact va_alen hx hb hK0 hP a 1 (gj_arr1 q hom) rfl rfl hd k
    · exact va_alen hx hb hK0 hP a 2 (gj_arr2 q hom) rfl rfl hd k
theorem gj_iast_i {om : gj_Om} {kd a : Nat} {k : Nat → Prop} (h : gj_iast om kd a k) : (gj_Y a).1 = kd ∧ a < om.1 ∧ Nat.blt a 128 = true ∧ k (gj_Y a).2 := by
  obtain ⟨h1, h⟩ := gj_if h
  simp only [Bool.and_eq_true] at h1
  exact ⟨Nat.eq_of_beq_eq_true h1.1, Nat.le_of_ble_eq_true h1.2.1, h1.2.2, h⟩
theorem gj_lald_i {om : gj_Om} {SJ : gj_J} {a : Nat} {k : Nat → (Nat → Int64) → Prop} (h : gj_lald om SJ a k) : (gj_Y a).1 = 2 ∧ a < om.1 ∧ Nat.blt a 128 = true ∧ k (gj_Y a).2 (SJ a) := by
  obtain ⟨h1, h⟩ := gj_if h
  simp only [Bool.and_eq_true] at h1
  exact ⟨Nat.eq_of_beq_eq_true h1.1, Nat.le_of_ble_eq_true h1.2.1, h1.2.2, h⟩
set_option maxHeartbeats 4000000 in
theorem gj_call_s (F : gj_F E om M X p s m args meth c) {idx mid : Nat} {C : String} {As r : List Value} {SI : gj_I} {SJ : gj_J} {ls : gj_O} (hm : gj_mok M (mt mid) idx As.length) (hcat : gj_cat r ≤ 8) (h : gj_Do E om (mt mid) As SI SJ (fun v SI' SJ' => rec ls (v.toList ++ r) SI' SJ')) (hst : Cond.static (mt mid).1 ∈ gj_tb) (hd : decode (gj_cc M) pc = .ok (.invokestatic idx, 3)) (hrec : ∀ ls st SI SJ, rec ls st SI SJ → gj_G E om M p e s m args below meth c X (pc + 3) ls st SI SJ) : gj_G E om M p e s m args below meth c X pc ls (As.reverse ++ r) SI SJ := by
  obtain ⟨hx, hb, hml, hown, hts, hr, hlo, hK0, hSt, hsz, hXf, hXl, hXc, hXs, hXb⟩ := F
  obtain ⟨hlk, hcode, hini, hds, hR⟩ := hm
  intro H locs la hP hS hL
  refine gj_sz fun hz => ?_
  have hz2 : H.size = gj_b E + om.1 := by have := hS.1; have := gj_lo hP (by omega); omega
  have hpre := gj_pre (As := As) hz2 hP hS hK0 hSt
  have hW : 2 * (F0 m pc la ((As.reverse ++ r).map (gj_rv E))).monitorRoom + ((r.map (gj_rv E)).map fun v => v.category).sum ≤ 8 := by
    rw [gj_cat_map]; exact lv_room (m := m) (pc := pc) (ls := la) (rest := (As.reverse ++ r).map (gj_rv E)) (st := r) hcat
  have hstk : (F0 m pc la ((As.reverse ++ r).map (gj_rv E))).stack = (As.map (gj_rv E)).reverse ++ r.map (gj_rv E) := by
    show (As.reverse ++ r).map (gj_rv E) = _
    rw [List.map_append, List.map_reverse]
  have kk : ∀ (v : Option Value) (SI' : gj_I) (SJ' : gj_J) (H1 : Heap) (locs1 : List Loc), rec ls (v.toList ++ r) SI' SJ' → va_P (gj_D E) vwCl (gj_Wd E om SI' SJ') H1 → va_S (gj_A E) s.heap H1 locs1 → W p E.1 e X.1 s m args below meth c H1 locs1 X.2.1 X.2.2.1 X.2.2.2 (F0 m (pc + 3) la ((v.map (gj_rv E)).toList ++ r.map (gj_rv E))) := by
    intro v SI' SJ' H1 locs1 hq hP1 hS1
    have k := hrec _ _ _ _ hq H1 locs1 la hP1 hS1 hL
    cases v <;> exact k
  rcases hlk with hlk | hlk
  · exact gj_cont (va_runS (nL := gj_nL M) ⟨hx, hb, hml, hown, hts⟩ h ⟨callB_of As.length hts (gj_goodIn hcode) rfl rfl rfl (hts _ hini) (hts _ hlk) hds (by rw [hXf, hXl]; exact hR), hts _ hst⟩ hpre rfl (by simp) hL.1 hstk hW hd ⟨hXc, hXs⟩) hS kk
  · exact gj_cont (va_runSN (nL := gj_nL M) (host := "GraspJudge") ⟨hx, hb, hml, hown, hts⟩ h ⟨va_cnB As.length hts (gj_goodIn hcode) rfl rfl rfl (hSt.2.2.2.2.2.2 _ hlk) (hts _ hini) hds (by rw [hXf, hXl]; exact hR), hts _ hst, trivial⟩ hpre rfl (by simp) hL.1 hstk hW hd ⟨hXc, hXs⟩) hS kk
set_option maxHeartbeats 4000000 in
theorem gj_callV_s (F : gj_F E om M X p s m args meth c) {idx mid b : Nat} {As r : List Value} {SI : gj_I} {SJ : gj_J} {ls : gj_O} (hm : gj_mok M (mt mid) idx As.length) (hcat : gj_cat r ≤ 8) (h : gj_Do E om (mt mid) (.ref b :: As) SI SJ (fun v SI' SJ' => rec ls (v.toList ++ r) SI' SJ')) (hin : Cond.instanceMethod (mt mid).1 ∈ gj_tb) (hse : Cond.selects (mt mid).1.cls (mt mid).1 (mt mid).1 ∈ gj_tb) (hd : decode (gj_cc M) pc = .ok (.invokevirtual idx, 3)) (hrec : ∀ ls st SI SJ, rec ls st SI SJ → gj_G E om M p e s m args below meth c X (pc + 3) ls st SI SJ)
    (hb2 : ∀ (H : Heap) (locs : List Loc), va_P (gj_D E) vwCl (gj_Wd E om SI SJ) H → va_S (gj_A E) s.heap H locs → ∃ cell : Cell, H[gj_ad E b]? = some cell ∧ cell.vm.isStatics = false ∧ s.vm.findClass (mt mid).1.cls = some cell.cls) : gj_G E om M p e s m args below meth c X pc ls (As.reverse ++ .ref b :: r) SI SJ := by
  obtain ⟨hx, hb, hml, hown, hts, hr, hlo, hK0, hSt, hsz, hXf, hXl, hXc, hXs, hXb⟩ := F
  obtain ⟨hlk, hcode, hini, hds, hR⟩ := hm
  intro H locs la hP hS hL
  refine gj_sz fun hz => ?_
  have hz2 : H.size = gj_b E + om.1 := by have := hS.1; have := gj_lo hP (by omega); omega
  have hpre := gj_pre (As := .ref b :: As) hz2 hP hS hK0 hSt
  have hcell := hb2 H locs hP hS
  have hW : 2 * (F0 m pc la ((As.reverse ++ .ref b :: r).map (gj_rv E))).monitorRoom + ((r.map (gj_rv E)).map fun v => v.category).sum ≤ 8 := by
    rw [gj_cat_map]; exact lv_room (m := m) (pc := pc) (ls := la) (rest := (As.reverse ++ .ref b :: r).map (gj_rv E)) (st := r) hcat
  have hstk : (F0 m pc la ((As.reverse ++ .ref b :: r).map (gj_rv E))).stack = (As.map (gj_rv E)).reverse ++ .ref (gj_ad E b) :: r.map (gj_rv E) := by
    show (As.reverse ++ .ref b :: r).map (gj_rv E) = _
    rw [List.map_append, List.map_reverse]; rfl
  have kk : ∀ (v : Option Value) (SI' : gj_I) (SJ' : gj_J) (H1 : Heap) (locs1 : List Loc), rec ls (v.toList ++ r) SI' SJ' → va_P (gj_D E) vwCl (gj_Wd E om SI' SJ') H1 → va_S (gj_A E) s.heap H1 locs1 → W p E.1 e X.1 s m args below meth c H1 locs1 X.2.1 X.2.2.1 X.2.2.2 (F0 m (pc + 3) la ((v.map (gj_rv E)).toList ++ r.map (gj_rv E))) := by
    intro v SI' SJ' H1 locs1 hq hP1 hS1
    have k := hrec _ _ _ _ hq H1 locs1 la hP1 hS1 hL
    cases v <;> exact k
  rcases hlk with hlk | hlk
  · exact gj_cont (va_runV (nL := gj_nL M) (C := (mt mid).1.cls) ⟨hx, hb, hml, hown, hts⟩ h ⟨callB_of As.length hts (gj_goodIn hcode) rfl rfl rfl (hts _ hini) (hts _ hlk) hds (by rw [hXf, hXl]; exact hR), hts _ hin, hts _ hse⟩ ⟨hpre.1, hcell, hpre.2⟩ rfl (by simp) hL.1 hstk hW hd ⟨hXc, hXs⟩) hS kk
  · exact gj_cont (va_runVN (nL := gj_nL M) (C := (mt mid).1.cls) (host := "GraspJudge") ⟨hx, hb, hml, hown, hts⟩ h ⟨va_cnB As.length hts (gj_goodIn hcode) rfl rfl rfl (hSt.2.2.2.2.2.2 _ hlk) (hts _ hini) hds (by rw [hXf, hXl]; exact hR), hts _ hin, hts _ hse⟩ ⟨hpre.1, hcell, hpre.2⟩ rfl (by simp) hL.1 hstk hW hd ⟨hXc, hXs⟩) hS kk
theorem gj_sw_i {pc : Nat} {x : Int32} {k : Nat → Prop} : ∀ (os : List Int) (v : Int) (j : Nat) (off : Int), gj_sw pc v os x k → os[j]? = some off → x.toInt = v + j → k ((pc : Int) + off).toNat
  | [], v, j, off, _, h2, _ => by simp at h2
  | o :: os, v, 0, off, h1, h2, h3 => by
    simp at h2; subst h2
    refine h1.1 ?_
    rw [← Int32.ofInt_toInt x, h3]; simp
  | o :: os, v, j + 1, off, h1, h2, h3 => gj_sw_i os (v + 1) j off h1.2 (by simpa using h2) (by rw [h3]; push_cast; omega)
end GjT
