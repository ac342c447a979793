/-! 96: take, turn, past, seed, keep, undo in the class -/
section OpsD
variable {E : gj_E} {SI : gj_I} {SJ : gj_J} {F : Nat → Int}
theorem sp_takeC {Q : Int32 → gj_I → gj_J → Prop} {a : Int32} (hC : CNT F SI SJ) (hF : WF F) (i : Int) (ir : -2147483648 ≤ i ∧ i < 2147483648) (ha : a = i3 i) (h : ∀ SI' SJ', FI LCI SI SI' → FJ LCJ SJ SJ' → CNT (takeR F i).2 SI' SJ' → Q (i3 (takeR F i).1) SI' SJ') : DoI E 103 [(.ref 0), (.int a)] SI SJ Q := by
  subst ha
  have hC2 := hC
  obtain ⟨⟨hX, hD, hf, hh, hx⟩, hg, ht⟩ := hC2
  have hF2 := hF
  obtain ⟨h1, h2, h3, h4, h5, h6⟩ := hF2
  have n0 := h3.1; have n6 := h3.2.1
  have bad : ¬ (0 ≤ i ∧ i < F 17) → Q (i3 (-1)) SI SJ := fun z => by
    have e1 : takeR F i = (-1, F) := if_neg z
    rw [e1] at h; exact h SI SJ FI.rf FJ.rf hC
  refine st_103 _ SI SJ ?_
  rw [hf.1, i3_lt0 (by omega) (by omega), i3_lt (by omega) (by omega) (by omega) (by omega)]
  refine ⟨fun c => bad (by omega), fun c => ⟨fun d => ?_, fun d => bad (by omega)⟩⟩
  obtain ⟨m, hm⟩ : ∃ m : Nat, i = m := ⟨i.toNat, by omega⟩
  subst hm
  have e1 : takeR F m = (F 17 - 1, ntd (dropF F m) 1) := if_pos ⟨by omega, d⟩
  rw [e1] at h
  obtain ⟨n, hn⟩ : ∃ n : Nat, F 17 = n := ⟨(F 17).toNat, by omega⟩
  have hnf : nf F = n := by unfold nf; omega
  have hF' : WF (dropF F m) := hF.drop d
  have d17 : dropF F m 17 = F 17 - 1 := if_pos rfl
  have dn : ∀ k, ¬ (17 ≤ k ∧ k ≤ 29) → dropF F m k = F k := fun k hk => by unfold dropF; rw [if_neg (by omega), if_neg (by omega), if_neg (by omega)]
  have dn2 : ∀ k, 29 < k → dropF F m k = F k := fun k hk => dn k (by omega)
  have ap : Ap F (dropF F m) := fun k hk => dn k (by omega)
  obtain ⟨f5, fe, f6, f7, f8, f9⟩ := hf
  rw [i3_add]
  refine up_lp (α := Unit) (P := fun j _ A B => B = SJ ∧ m + 1 ≤ j ∧ FI (fun o _ => o = 12 ∨ o = 13) SI A ∧ ∀ t : Nat, t < n → (t + 1 < j → A 12 t = i3 (F (18 + if t < m then t else t + 1)) ∧ A 13 t = i3 (F (24 + if t < m then t else t + 1))) ∧ (j ≤ t + 1 → A 12 t = i3 (F (18 + t)) ∧ A 13 t = i3 (F (24 + t)))) (G := fun j _ A B => GoI E mt_103 21 [some (.ref 0), none, some (.int (i3 (j : Nat)))] A B Q) n ?_ ?_ (m + 1) () SI SJ (by omega) ⟨rfl, Nat.le_refl _, FI.rf, fun t ht => ⟨fun q => by rw [if_pos (by omega)]; exact fe t (by omega), fun q => fe t (by omega)⟩⟩
  · rintro _ A B ⟨rfl, mj, g1, g2⟩
    have e5 : A 3 5 = i3 (F 17) := by rw [g1 3 5 (by omega)]; exact f5
    refine lp_103_21 _ A B ⟨fun _ => ?_, fun q => ?_⟩
    · rw [e5, i3_sub]
      have f0 : FI (fun o k => o = 12 ∨ o = 13 ∨ (o = 3 ∧ k = 5)) SI (gj_u2 A 3 5 (i3 (F 17 - 1))) := (g1.le (fun o k z => by omega) : FI (fun o k => o = 12 ∨ o = 13 ∨ (o = 3 ∧ k = 5)) SI A).u (Or.inr (Or.inr ⟨rfl, rfl⟩))
      refine sp_settle (F := dropF F m) ((hX.f f0 ⟨by omega, fun k => by omega⟩).ap ap h1.1) ((hD.f f0 ⟨by omega, fun k => by omega⟩).ap ap h1.1) ?_ ((hh.f f0 ⟨by omega, fun k => by omega⟩).c (fun j q1 q2 => dn2 j (by omega)) ⟨h5.1, h5.2.1⟩) ((hx.f f0 ⟨by omega, by omega, fun k => by omega⟩).c (fun j q => dn2 j (by omega))) hF' 1 (by omega) rfl (fun A2 B2 k1 k2 k3 k4 k5 => ?_)
      · refine ⟨by rw [u2_s, d17], fun t ht => ?_, ?_, ?_, ?_, ?_⟩
        · rw [d17] at ht
          obtain ⟨a1, a2⟩ := (g2 t (by omega)).1 (by omega)
          have x18 : dropF F m (18 + t) = F (18 + if t < m then t else t + 1) := by
            unfold dropF; rw [hnf, if_neg (by omega)]
            by_cases q : t < m
            · rw [if_pos q, if_neg (by omega), if_neg (by omega)]
            · rw [if_neg q, if_pos (by omega)]; congr 1
          have x24 : dropF F m (24 + t) = F (24 + if t < m then t else t + 1) := by
            unfold dropF; rw [hnf, if_neg (by omega), if_neg (by omega)]
            by_cases q : t < m
            · rw [if_pos q, if_neg (by omega)]
            · rw [if_neg q, if_pos (by omega)]; congr 1
          exact ⟨by rw [u2_n (by omega), x18]; exact a1, by rw [u2_n (by omega), x24]; exact a2⟩
        · rw [u2_n (by omega), g1 3 6 (by omega), dn2 30 (by omega)]; exact f6
        · rw [u2_n (by omega), g1 3 7 (by omega), dn2 31 (by omega)]; exact f7
        · rw [u2_n (by omega), g1 3 8 (by omega), dn2 32 (by omega)]; exact f8
        · rw [u2_n (by omega), g1 3 9 (by omega), dn2 33 (by omega)]; exact f9
      · have e17 : A2 3 5 = i3 (F 17 - 1) := by
          rw [k3.1.2.2.1.1]
          refine i3_c ?_
          rw [show ntd (dropF F m) 1 17 = dropF F m 17 from nt_lo hF'.2.2.2.2.1.1 (by decide), d17]
        rw [e17]
        exact h A2 B2 ((f0.le (fun o k z => by unfold LCI; omega) : FI LCI SI _).tr (LIst_C k1)) (LJg2_C k2) ⟨k3.1, k3.2, TR.z k4 k5⟩
    · rw [e5, hn, i3_le (by omega) (by omega) (by omega) (by omega)] at q; omega
  · rintro j _ A B hj ⟨rfl, mj, g1, g2⟩ ih
    have e5 : A 3 5 = i3 (F 17) := by rw [g1 3 5 (by omega)]; exact f5
    refine lp_103_21 _ A B ⟨fun q => ?_, fun q => ?_⟩
    · rw [e5, hn, i3_le (by omega) (by omega) (by omega) (by omega)] at q; omega
    · rw [i3_sub, i3_in (by omega) (by omega), i3_in (by omega) (by omega), i3_n (by omega) (by omega), i3_n (by omega) (by omega), show ((j : Int) - 1).toNat = j - 1 by omega, show ((j : Nat) : Int).toNat = j by omega, i3_add]
      refine ⟨by omega, by omega, ih () _ B ⟨rfl, by omega, (g1.u (Or.inl rfl)).u (Or.inr rfl), fun t ht => ⟨fun y => ?_, fun y => ?_⟩⟩⟩
      · by_cases e : t = j - 1
        · obtain ⟨a1, a2⟩ := (g2 j (by omega)).2 (by omega)
          rw [if_neg (by omega), show t + 1 = j by omega, e]
          exact ⟨by rw [u2_n (by omega), u2_s]; exact a1, by rw [u2_s]; exact a2⟩
        · obtain ⟨a1, a2⟩ := (g2 t ht).1 (by omega)
          exact ⟨by rw [u2_n (by omega), u2_n (by omega)]; exact a1, by rw [u2_n (by omega), u2_n (by omega)]; exact a2⟩
      · obtain ⟨a1, a2⟩ := (g2 t ht).2 (by omega)
        exact ⟨by rw [u2_n (by omega), u2_n (by omega)]; exact a1, by rw [u2_n (by omega), u2_n (by omega)]; exact a2⟩
theorem sp_quarter {Q : gj_I → gj_J → Prop} (hX : PX4 F SI) (hW : Wp F) (hW2 : Wp (turnF F)) (h : ∀ SI', FI (fun o k => 4 ≤ o ∧ o ≤ 11 ∧ ¬ (o = 4 ∧ k = 7)) SI SI' → PX4 (turnF F) SI' → PD4 (turnF F) SI' → Q SI' SJ) : DoV E 33 [(.ref 4)] SI SJ Q := by
  obtain ⟨n1, n2, n3⟩ := hW.1.n
  have t0 : turnF F 0 = F 0 := by unfold turnF; rw [fu_n (by omega), fu_n (by omega)]; unfold trn; rw [if_neg (by omega), if_neg (by omega)]
  have tn : nC (turnF F) = nC F := by unfold nC; rw [t0]
  have cxi : ∀ G : Nat → Int, ∀ i, i < nC G → cx G i = G (1 + i) ∧ cy G i = G (9 + i) := fun G i hi => by unfold cx cy; rw [Nat.mod_eq_of_lt hi]; exact ⟨rfl, rfl⟩
  have tx : ∀ i, i < nC F → cx (turnF F) i = 9 - cy F i ∧ cy (turnF F) i = cx F i := by
    intro i hi
    rw [(cxi (turnF F) i (by omega)).1, (cxi (turnF F) i (by omega)).2, (cxi F i hi).1, (cxi F i hi).2]
    unfold turnF
    rw [fu_n (by omega), fu_n (by omega), fu_n (by omega), fu_n (by omega)]
    unfold trn
    rw [if_pos (by omega), if_neg (by omega), if_pos (by omega)]
    exact ⟨by congr 2; omega, by congr 1; omega⟩
  refine st_33 SI SJ ?_
  refine up_lp (α := Unit) (P := fun i _ A B => B = SJ ∧ FI (fun o _ => o = 5 ∨ o = 6) SI A ∧ ∀ t, t < nC F → (t < i → A 5 t = i3 (9 - cy F t) ∧ A 6 t = i3 (cx F t)) ∧ (i ≤ t → A 5 t = i3 (cx F t) ∧ A 6 t = i3 (cy F t))) (G := fun i _ A B => GoV E mt_33 2 [some (.ref 4), some (.int (i3 (i : Nat))), none] A B Q) (nC F) ?_ ?_ 0 () SI SJ (by omega) ⟨rfl, FI.rf, fun t ht => ⟨fun q => by omega, fun _ => hX.2 t ht⟩⟩
  · rintro _ A B ⟨rfl, g1, g2⟩
    have e7 : A 4 7 = i3 (F 0) := by rw [g1 4 7 (by omega)]; exact hX.1
    have hXA : PX4 (turnF F) A := by
      refine ⟨by rw [t0]; exact e7, fun t ht => ?_⟩
      rw [tn] at ht
      rw [(tx t ht).1, (tx t ht).2]
      exact (g2 t ht).1 ht
    refine lp_33_2 _ A B ⟨fun _ => sp_derive4 hXA hW2 (fun A2 f2 hD2 => h A2 ((g1.le (fun o k z => by omega) : FI (fun o k => 4 ≤ o ∧ o ≤ 11 ∧ ¬ (o = 4 ∧ k = 7)) SI A).tr (f2.le (fun o k z => by unfold LD4 at z; omega))) (hXA.f f2 (by unfold LD4; exact ⟨by omega, fun k => by omega⟩)) hD2), fun c => ?_⟩
    rw [e7, n3, i3_le (by omega) (by omega) (by omega) (by omega)] at c; omega
  · rintro i _ A B hi ⟨rfl, g1, g2⟩ ih
    have e7 : A 4 7 = i3 (F 0) := by rw [g1 4 7 (by omega)]; exact hX.1
    obtain ⟨a1, a2⟩ := (g2 i hi).2 (Nat.le_refl _)
    refine lp_33_2 _ A B ⟨fun c => ?_, fun c => ⟨by rw [i3_in (by omega) (by omega)]; omega, ?_⟩⟩
    · rw [e7, n3, i3_le (by omega) (by omega) (by omega) (by omega)] at c; omega
    · rw [i3_n (by omega) (by omega), show ((i : Nat) : Int).toNat = i by omega, a1, a2, i3_sub, i3_add]
      refine ih () _ B ⟨rfl, (g1.u (Or.inl rfl)).u (Or.inr rfl), fun t ht => ⟨fun q => ?_, fun q => ?_⟩⟩
      · by_cases e : t = i
        · subst e; exact ⟨by rw [u2_n (by omega), u2_s], by rw [u2_s]⟩
        · obtain ⟨b1, b2⟩ := (g2 t ht).1 (by omega)
          exact ⟨by rw [u2_n (by omega), u2_n (by omega)]; exact b1, by rw [u2_n (by omega), u2_n (by omega)]; exact b2⟩
      · obtain ⟨b1, b2⟩ := (g2 t ht).2 (by omega)
        exact ⟨by rw [u2_n (by omega), u2_n (by omega)]; exact b1, by rw [u2_n (by omega), u2_n (by omega)]; exact b2⟩
theorem sp_turnC {Q : Int32 → gj_I → gj_J → Prop} (hC : CNT F SI SJ) (hF : WF F) (h : ∀ SI' SJ', FI LCI SI SI' → FJ LCJ SJ SJ' → CNT (turnR F).2 SI' SJ' → Q (i3 (turnR F).1) SI' SJ') : DoI E 108 [(.ref 0)] SI SJ Q := by
  obtain ⟨⟨hX, hD, hf, hh, hx⟩, hg, ht⟩ := hC
  have hF' := hF.turn
  obtain ⟨h1, h2, h3, h4, h5, h6⟩ := hF
  have tj : ∀ j, 17 ≤ j → j ≠ 32 → j ≠ 33 → turnF F j = F j := fun j q1 q2 q3 => by
    unfold turnF; rw [fu_n q3, fu_n q2]; unfold trn; have := h1.1.n.2.1; rw [if_neg (by omega), if_neg (by omega)]
  have t32 : turnF F 32 = 9 - F 33 := by unfold turnF; rw [fu_n (by omega), fu_s]
  have t33 : turnF F 33 = F 32 := by unfold turnF; rw [fu_s]
  refine st_108 SI SJ (sp_quarter hX h1 hF'.1 (fun A f1 hXA hDA => ?_))
  obtain ⟨f5, fe, f6, f7, f8, f9⟩ := hf
  have g : ∀ o k, ¬ (4 ≤ o ∧ o ≤ 11) → A o k = SI o k := fun o k z => f1 o k (by omega)
  rw [g 3 8 (by omega), g 3 9 (by omega), f8, f9, i3_sub]
  have f0 : FI (fun o k => (4 ≤ o ∧ o ≤ 11) ∨ (o = 3 ∧ (k = 8 ∨ k = 9))) SI (gj_u2 (gj_u2 A 3 8 (i3 (9 - F 33))) 3 9 (i3 (F 32))) := ((f1.le (fun o k z => by omega) : FI (fun o k => (4 ≤ o ∧ o ≤ 11) ∨ (o = 3 ∧ (k = 8 ∨ k = 9))) SI A).u (Or.inr ⟨rfl, Or.inl rfl⟩)).u (Or.inr ⟨rfl, Or.inr rfl⟩)
  have f00 : FI (fun o k => o = 3 ∧ (k = 8 ∨ k = 9)) A (gj_u2 (gj_u2 A 3 8 (i3 (9 - F 33))) 3 9 (i3 (F 32))) := (FI.rf.u ⟨rfl, Or.inl rfl⟩).u ⟨rfl, Or.inr rfl⟩
  refine sp_settle (F := turnF F) (hXA.f f00 ⟨by omega, fun k => by omega⟩) (hDA.f f00 ⟨by omega, fun k => by omega⟩) ?_ ((hh.f f0 ⟨by omega, fun k => by omega⟩).c (fun j q1 q2 => tj j (by omega) (by omega) (by omega)) ⟨h5.1, h5.2.1⟩) ((hx.f f0 ⟨by omega, by omega, fun k => by omega⟩).c (fun j q => tj j (by omega) (by omega) (by omega))) hF' 4 (by omega) rfl (fun A2 B2 k1 k2 k3 k4 k5 => ?_)
  · refine ⟨by rw [u2_n (by omega), u2_n (by omega), g 3 5 (by omega), tj 17 (by omega) (by omega) (by omega)]; exact f5, fun i hi => ?_, ?_, ?_, ?_, ?_⟩
    · rw [tj 17 (by omega) (by omega) (by omega)] at hi
      have := h3.2.1
      obtain ⟨a1, a2⟩ := fe i hi
      exact ⟨by rw [u2_n (by omega), u2_n (by omega), g 12 i (by omega), tj (18 + i) (by omega) (by omega) (by omega)]; exact a1, by rw [u2_n (by omega), u2_n (by omega), g 13 i (by omega), tj (24 + i) (by omega) (by omega) (by omega)]; exact a2⟩
    · rw [u2_n (by omega), u2_n (by omega), g 3 6 (by omega), tj 30 (by omega) (by omega) (by omega)]; exact f6
    · rw [u2_n (by omega), u2_n (by omega), g 3 7 (by omega), tj 31 (by omega) (by omega) (by omega)]; exact f7
    · rw [u2_n (by omega), u2_s, t32]
    · rw [u2_s, t33]
  · have hq := h A2 B2 ((f0.le (fun o k z => by unfold LCI; omega) : FI LCI SI _).tr (LIst_C k1)) (LJg2_C k2) ⟨k3.1, k3.2, TR.z k4 k5⟩
    have ag : Ag (turnF F) (ntd (turnF F) 4) := fun k hk => nt_lo hF'.2.2.2.2.1.1 (by omega)
    have ef := (ag.eFirm hF'.1.1 hF'.2.2.1).1
    have e13 : A2 0 13 = ibc (firmF (turnF F)) := by rw [k3.2.2.2.2]; exact ibc_c ef
    rw [e13]
    have er : (turnR F).1 = bz (firmF (turnF F)) := rfl
    rw [er] at hq
    refine st_152 _ A2 B2 ⟨fun c => ?_, fun c => ?_⟩
    · rw [ibc_0] at c; rw [bz_f c] at hq; exact hq
    · rw [ibc_0, Classical.not_not] at c; rw [bz_t c] at hq; exact hq
theorem sp_pastC {Q : Int32 → gj_I → gj_J → Prop} {a b : Int32} (hh : NSh3 F SI) (h5 : 0 ≤ F 35 ∧ F 35 ≤ 20) (k w : Int) (kr : -2147483648 ≤ k ∧ k < 2147483648) (wr : -2147483648 ≤ w ∧ w < 2147483648) (ha : a = i3 k) (hb : b = i3 w) (h : Q (i3 (pastA F k w)) SI SJ) : DoI E 109 [(.ref 0), (.int a), (.int b)] SI SJ Q := by
  subst ha; subst hb
  unfold pastA at h
  refine st_109 _ _ SI SJ ?_
  rw [hh.1, i3_lt0 (by omega) (by omega), i3_lt0 (by omega) (by omega), i3_le (by omega) (by omega) (by omega) (by omega), i3_le (by omega) (by omega) (by omega) (by omega)]
  refine ⟨fun c => ?_, fun c => ⟨fun d => ?_, fun d => ⟨fun g => ?_, fun g => ⟨fun t => ?_, fun t => ?_⟩⟩⟩⟩
  · rw [if_neg (by omega)] at h; exact h
  · rw [if_neg (by omega)] at h; exact h
  · rw [if_neg (by omega)] at h; exact h
  · rw [if_pos (by omega)] at h
    obtain ⟨m, hm⟩ : ∃ m : Nat, k = m := ⟨k.toNat, by omega⟩
    obtain ⟨v, hv⟩ : ∃ v : Nat, w = v := ⟨w.toNat, by omega⟩
    subst hm; subst hv
    rw [i3_mul, i3_add, i3_in (by omega) (by omega), i3_n (by omega) (by omega), show (4 * (m : Int) + (v : Int)).toNat = 4 * m + v by omega, hh.2 m v (by omega) (by omega)]
    rw [show (36 + 4 * (F 35 - 1 - (m : Int)) + (v : Int)).toNat = 36 + 4 * ((F 35).toNat - 1 - m) + v by omega] at h
    exact ⟨by omega, h⟩
  · rw [if_neg (by omega)] at h; exact h
end OpsD
