/-! 08: THE PURE MACHINE IS SOUND (part 3): the step -/
section GjS
variable {E : gj_E} {om : gj_Om} {mt : Nat → gj_M} {M : gj_M} {p : Program} {e : Env} {s : State} {m : MethodId} {args : Array Value} {below : List Frame} {meth : Method} {c : Code} {Q : Option Value → gj_I → gj_J → Prop} {X : gj_X}
variable {K : Nat → gj_O → List Value → gj_I → gj_J → Prop} {rec : gj_O → List Value → gj_I → gj_J → Prop} {pc n ax : Nat}
set_option maxHeartbeats 4000000 in
theorem gj_getf_s (hcl : gj_clF) (F : gj_F E om M X p s m args meth c) {idx : Nat} (hok : gj_ok mt M (pc, .getfield idx, n, ax)) (hrec : ∀ ls st SI SJ, rec ls st SI SJ → gj_G E om M p e s m args below meth c X (pc + n) ls st SI SJ) {ls : gj_O} {st : List Value} {SI : gj_I} {SJ : gj_J} (h0 : gj_r1 st (fun o r => gj_getf om SI SJ o ax (fun v => rec ls (v :: r) SI SJ))) : gj_G E om M p e s m args below meth c X pc ls st SI SJ := by
  obtain ⟨hx, hb, hml, hown, hts, hr, hlo, hK0, hSt, hsz, hXf, hXl, hXc, hXs, hXb⟩ := F
  obtain ⟨hd, hn, hl⟩ := hok
  have hn : n = 3 := hn
  subst hn
  obtain ⟨o, r, rfl, h⟩ := gj_r1_s h0
  intro H locs la hP hS hL
  unfold gj_getf at h
  cases ho : Nat.blt o 128
  · rw [ho] at h
    have h : bif Nat.ble 132 o && Nat.blt o 136 then (bif Nat.beq ax 9000 then rec ls (Value.ref (o + 4) :: r) SI SJ else (bif Nat.beq ax 9001 then rec ls (Value.int 0 :: r) SI SJ else False)) else False := h
    obtain ⟨h1, h⟩ := gj_if h
    simp only [Bool.and_eq_true] at h1
    have h2 : 132 ≤ o := Nat.le_of_ble_eq_true h1.1
    have h3 : o < 136 := Nat.le_of_ble_eq_true h1.2
    obtain ⟨j, hj, rfl⟩ : ∃ j, j < 4 ∧ o = 132 + j := ⟨o - 132, by omega, by omega⟩
    have ea : gj_ad E (132 + j) = gj_sa E (4 + j) := by
      unfold gj_ad; rw [ho]; show gj_sa E (132 + j - 128) = _; rw [show 132 + j - 128 = 4 + j by omega]
    have ea2 : gj_ad E (132 + j + 4) = gj_sa E (8 + j) := by
      unfold gj_ad
      have : Nat.blt (132 + j + 4) 128 = false := by
        cases hb2 : Nat.blt (132 + j + 4) 128
        · rfl
        · have : 132 + j + 4 < 128 := Nat.le_of_ble_eq_true hb2
          omega
      rw [this]; show gj_sa E (132 + j + 4 - 128) = _; rw [show 132 + j + 4 - 128 = 8 + j by omega]
    have hax : ax = 9000 ∨ ax = 9001 := by
      cases h9 : Nat.beq ax 9000
      · rw [h9] at h
        have h : bif Nat.beq ax 9001 then rec ls (Value.int 0 :: r) SI SJ else False := h
        exact Or.inr (Nat.eq_of_beq_eq_true (gj_if h).1)
      · exact Or.inl (Nat.eq_of_beq_eq_true h9)
    have hl2 : (ax = 9000 ∧ Cond.fieldLink M.1.cls idx "java/lang/String" "value" "[B" ∈ gj_tb) ∨ (ax = 9001 ∧ Cond.fieldLink M.1.cls idx "java/lang/String" "coder" "B" ∈ gj_tb) := by
      rcases hl with ⟨q, hq, -⟩ | hl
      · exfalso
        rcases hax with rfl | rfl <;> simp [vwCl] at hq
      · exact hl
    show W p E.1 e X.1 s m args below meth c H locs X.2.1 X.2.2.1 X.2.2.2 (F0 m pc la (.ref (gj_ad E (132 + j)) :: r.map (gj_rv E)))
    rw [ea]
    rcases hl2 with ⟨rfl, hl3⟩ | ⟨rfl, hl3⟩
    · have h : rec ls (Value.ref (132 + j + 4) :: r) SI SJ := h
      have k := hrec _ _ _ _ h H locs la hP hS hL
      have k : W p E.1 e X.1 s m args below meth c H locs X.2.1 X.2.2.1 X.2.2.2 (F0 m (pc + 3) la (.ref (gj_ad E (132 + j + 4)) :: r.map (gj_rv E))) := k
      rw [ea2] at k
      exact vk_getf hx hb (hSt.2.2.1 j hj).2.2 hS hown (hts _ hl3) (fun _ h9 => h9) hd k
    · have h : rec ls (Value.int 0 :: r) SI SJ := h
      exact vk_getf hx hb (hSt.2.2.1 j hj).2.1 hS hown (hts _ hl3) (fun _ h9 => h9) hd (hrec _ _ _ _ h H locs la hP hS hL)
  · rw [ho] at h
    obtain ⟨h1, h⟩ := gj_if (show bif Nat.beq (gj_Y o).1 3 && (Nat.beq (gj_Y o).2 (ax / 100) && Nat.blt o om.1) then gj_fldv om SI SJ o (gj_kd (ax / 100) (ax % 100)) (ax % 100) (fun v => rec ls (v :: r) SI SJ) else False from h)
    simp only [Bool.and_eq_true] at h1
    have hy1 : (gj_Y o).1 = 3 := Nat.eq_of_beq_eq_true h1.1
    have hy2 : (gj_Y o).2 = ax / 100 := Nat.eq_of_beq_eq_true h1.2.1
    have hom : o < om.1 := Nat.le_of_ble_eq_true h1.2.2
    have ea : gj_ad E o = gj_b E + o := by unfold gj_ad; rw [ho]; rfl
    have hl : gj_fok M.1.cls idx (ax / 100) (ax % 100) := by
      rcases hl with hl | ⟨rfl, -⟩ | ⟨rfl, -⟩
      · exact hl
      · exact h.elim
      · exact h.elim
    obtain ⟨q, hq, hk, hl4⟩ := hl
    obtain ⟨hcw, hct, hcn, hcf, -⟩ := hcl _ _ hq
    show W p E.1 e X.1 s m args below meth c H locs X.2.1 X.2.2.1 X.2.2.2 (F0 m pc la (.ref (gj_ad E o) :: r.map (gj_rv E)))
    rw [ea]
    have he : (gj_Wd E om SI SJ)[o]? = some (gj_b E + o, .inr (ax / 100, gj_fs E om SI SJ o (ax / 100))) := by rw [gj_at hom, gj_cellO hy1, hy2]
    have hv : (gj_fs E om SI SJ o (ax / 100))[ax % 100]? = some (gj_fv E om SI SJ o (gj_kd (ax / 100) (ax % 100)) (ax % 100)) := gj_rg (by rw [← hcf]; exact hk)
    have k : W p E.1 e X.1 s m args below meth c H locs X.2.1 X.2.2.1 X.2.2.2 (F0 m (pc + 3) la (gj_fv E om SI SJ o (gj_kd (ax / 100) (ax % 100)) (ax % 100) :: r.map (gj_rv E))) := by
      generalize gj_kd (ax / 100) (ax % 100) = kd at h ⊢
      unfold gj_fldv at h
      split at h
      · exact hrec _ _ _ _ h H locs la hP hS hL
      · exact hrec _ _ _ _ h H locs la hP hS hL
      · split at h
        · rename_i rr hrr
          have k := hrec _ _ _ _ h H locs la hP hS hL
          unfold gj_fv
          rw [show om.2 o (ax % 100) = some rr from hrr]
          exact k
        · exact h.elim
      · exact hrec _ _ _ _ h H locs la hP hS hL
      · exact h.elim
    rcases hl4 with hl | hl
    · exact va_get (D := gj_D E) (ci := ax / 100) (C := q.1) (T := q.2.1) (N := q.2.2) hx hb hts hcw hown hK0 hP o he hq (ax % 100) hk (hts _ hl) (fun _ h9 => h9) hv hd k
    · exact va_getN (D := gj_D E) (ci := ax / 100) (C := q.1) (T := q.2.1) (N := q.2.2) hx hb hts hcw hown hK0 hP o he hq (ax % 100) hk (va_Nw.use rfl (hSt.2.2.2.2.2.2 _ hl)) (fun _ h9 => h9) hv hd k
set_option maxHeartbeats 4000000 in
theorem gj_putf_s (hcl : gj_clF) (F : gj_F E om M X p s m args meth c) {idx : Nat} (hok : gj_ok mt M (pc, .putfield idx, n, ax)) (hrec : ∀ ls st SI SJ, rec ls st SI SJ → gj_G E om M p e s m args below meth c X (pc + n) ls st SI SJ) {ls : gj_O} {st : List Value} {SI : gj_I} {SJ : gj_J} (h : gj_putf om SI SJ ax st (fun r SI' SJ' => rec ls r SI' SJ')) : gj_G E om M p e s m args below meth c X pc ls st SI SJ := by
  obtain ⟨hx, hb, hml, hown, hts, hr, hlo, hK0, hSt, hsz, hXf, hXl, hXc, hXs, hXb⟩ := F
  obtain ⟨hd, hn, hl⟩ := hok
  have hn : n = 3 := hn
  subst hn
  obtain ⟨q, hq, hk, hl⟩ := hl
  obtain ⟨hcw, hct, hcn, hcf, hck⟩ := hcl _ _ hq
  intro H locs la hP hS hL
  unfold gj_putf at h
  split at h
  · rename_i v o r
    obtain ⟨h1, h⟩ := gj_if h
    simp only [Bool.and_eq_true] at h1
    have ho := h1.1
    have hy1 : (gj_Y o).1 = 3 := Nat.eq_of_beq_eq_true h1.2.1
    have hy2 : (gj_Y o).2 = ax / 100 := Nat.eq_of_beq_eq_true h1.2.2.1
    have hom : o < om.1 := Nat.le_of_ble_eq_true h1.2.2.2
    have ea : gj_ad E o = gj_b E + o := by unfold gj_ad; rw [ho]; rfl
    have he : (gj_Wd E om SI SJ)[o]? = some (gj_b E + o, .inr (ax / 100, gj_fs E om SI SJ o (ax / 100))) := by rw [gj_at hom, gj_cellO hy1, hy2]
    have hlen : ax % 100 < (gj_fs E om SI SJ o (ax / 100)).length := by
      unfold gj_fs; rw [List.length_map, List.length_range, ← hcf]; exact hk
    have ck := hck (ax % 100) hk
    show W p E.1 e X.1 s m args below meth c H locs X.2.1 X.2.2.1 X.2.2.2 (F0 m pc la (gj_rv E v :: .ref (gj_ad E o) :: r.map (gj_rv E)))
    rw [ea]
    have go : ∀ (v' : Value) (ty : FieldType) (SI' : gj_I) (SJ' : gj_J), gj_tyf (ax / 100) (ax % 100) = ty → (q.2.1 (ax % 100)).2.2.2 = false → narrow ty v' = v' → fits ty v' = true → (gj_Wd E om SI SJ).set o (gj_b E + o, .inr (ax / 100, (gj_fs E om SI SJ o (ax / 100)).set (ax % 100) v')) = gj_Wd E om SI' SJ' → rec ls r SI' SJ' → W p E.1 e X.1 s m args below meth c H locs X.2.1 X.2.2.1 X.2.2.2 (F0 m pc la (v' :: .ref (gj_b E + o) :: r.map (gj_rv E))) := by
      intro v' ty SI' SJ' t1 t2 t3 t4 t5 t6
      have kk : ∀ (H1 : Heap) (locs1 : List Loc), va_P (gj_D E) vwCl ((gj_Wd E om SI SJ).set o (gj_b E + o, .inr (ax / 100, (gj_fs E om SI SJ o (ax / 100)).set (ax % 100) v'))) H1 → va_D (gj_A E) ((gj_Wd E om SI SJ).set o (gj_b E + o, .inr (ax / 100, (gj_fs E om SI SJ o (ax / 100)).set (ax % 100) v'))) → va_S (gj_A E) s.heap H1 locs1 → W p E.1 e X.1 s m args below meth c H1 locs1 X.2.1 X.2.2.1 X.2.2.2 (F0 m (pc + 3) la (r.map (gj_rv E))) := by
        intro H1 locs1 hP1 _ hS1
        rw [t5] at hP1
        exact hrec _ _ _ _ t6 H1 locs1 la hP1 hS1 hL
      have hpd : parseFieldDescriptor (q.2.1 (ax % 100)).2.2.1 = some ty := by rw [hct _ hk, t1]
      rcases hl with hl | hl
      · exact va_put (D := gj_D E) (ci := ax / 100) (C := q.1) (T := q.2.1) (N := q.2.2) hx hb hts hcw _ hct hcn hown hK0 hP (gj_ap E om SI SJ) hS o he hq (ax % 100) hk (hts _ hl) (fun _ h9 => h9) t2 hpd t3 t4 hlen hd kk
      · exact va_putN (D := gj_D E) (ci := ax / 100) (C := q.1) (T := q.2.1) (N := q.2.2) hx hb hts hcw _ hct hcn hown hK0 hP (gj_ap E om SI SJ) hS o he hq (ax % 100) hk (va_Nw.use rfl (hSt.2.2.2.2.2.2 _ hl)) (fun _ h9 => h9) t2 hpd t3 t4 hlen hd kk
    unfold gj_putv at h
    split at h
    · rename_i hkd
      split at h
      · exact go _ .int _ _ (ck.1 hkd).1 (ck.1 hkd).2 rfl rfl (by rw [← hy2]; exact gj_wrFI hy1 (Or.inl (by rw [hy2]; exact hkd))) h
      · exact h.elim
    · rename_i hkd
      split at h
      · exact go _ .long _ _ (ck.2.1 hkd).1 (ck.2.1 hkd).2 rfl rfl (by rw [← hy2]; exact gj_wrFJ hy1 (by rw [hy2]; exact hkd)) h
      · exact h.elim
    · rename_i hkd
      split at h
      · obtain ⟨hx01, h⟩ := h
        refine go _ .boolean _ _ (ck.2.2 hkd).1 (ck.2.2 hkd).2 ?_ ?_ (by rw [← hy2]; exact gj_wrFI hy1 (Or.inr (by rw [hy2]; exact hkd))) h
        · rcases hx01 with rfl | rfl <;> rfl
        · rcases hx01 with rfl | rfl <;> rfl
      · exact h.elim
    · exact h.elim
  · exact h.elim
end GjS
