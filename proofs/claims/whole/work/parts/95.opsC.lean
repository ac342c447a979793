/-! 95: what is done by hand, in the class -/
def LCI (o k : Nat) : Prop := (3 ≤ o ∧ o ≤ 15) ∨ (42 ≤ o ∧ o ≤ 80) ∨ (o = 0 ∧ (k = 12 ∨ k = 13))
def LCJ (o _k : Nat) : Prop := 43 ≤ o ∧ o ≤ 80
theorem LIst_C {A B : gj_I} (h : FI LIst A B) : FI LCI A B := h.le (fun o k z => by unfold LIst LIg2 at z; unfold LCI; omega)
theorem LJg2_C {A B : gj_J} (h : FJ LJg2 A B) : FJ LCJ A B := h.le (fun o k z => by unfold LJg2 at z; unfold LCJ; omega)
/-- what was sought is right, if it is known -/
def TR (F : Nat → Int) (SI : gj_I) (SJ : gj_J) : Prop := (SI 65 4 = i3 0 ∨ (SI 65 4 = i3 1 ∧ SI 65 6 = i3 (bsA F).1 ∧ ((bsA F).1 ≠ -1 → SJ 79 0 = i6 (bsA F).2.1 ∧ SJ 79 1 = i6 (bsA F).2.2))) ∧ (SI 65 5 = i3 0 ∨ (SI 65 5 = i3 1 ∧ SI 65 7 = i3 (twA F).1 ∧ ((twA F).1 ≠ 0 → SI 65 8 = i3 (twA F).2.1 ∧ SI 65 9 = i3 (twA F).2.2.1 ∧ SJ 80 0 = i6 (twA F).2.2.2.1 ∧ SJ 80 1 = i6 (twA F).2.2.2.2)))
def CNT (F : Nat → Int) (SI : gj_I) (SJ : gj_J) : Prop := NS3 F SI ∧ GR F SI SJ ∧ TR F SI SJ
theorem TR.z {F : Nat → Int} {SI : gj_I} {SJ : gj_J} (h1 : SI 65 4 = i3 0) (h2 : SI 65 5 = i3 0) : TR F SI SJ := ⟨Or.inl h1, Or.inl h2⟩
section OpsC
variable {E : gj_E} {SI : gj_I} {SJ : gj_J} {F : Nat → Int}
theorem sp_putC {Q : Int32 → gj_I → gj_J → Prop} {a b : Int32} (hC : CNT F SI SJ) (hF : WF F) (e k : Int) (er : -2147483648 ≤ e ∧ e < 2147483648) (kr : -2147483648 ≤ k ∧ k < 2147483648) (ha : a = i3 e) (hb : b = i3 k) (h : ∀ SI' SJ', FI LCI SI SI' → FJ LCJ SJ SJ' → CNT (putR F e k).2 SI' SJ' → Q (i3 (putR F e k).1) SI' SJ') : DoI E 101 [(.ref 0), (.int a), (.int b)] SI SJ Q := by
  subst ha; subst hb
  have hC2 := hC
  obtain ⟨⟨hX, hD, hf, hh, hx⟩, hg, ht⟩ := hC2
  have hF2 := hF
  obtain ⟨h1, h2, h3, h4, h5, h6⟩ := hF2
  have n0 := h3.1; have n6 := h3.2.1
  have fb := fgA_b h4 e k
  refine st_101 _ _ SI SJ (sp_hasPlace hX hD h1 e k er kr rfl rfl ⟨fun c => ?_, fun c => ?_⟩)
  · rw [ibc_0, Classical.not_not] at c
    refine sp_fingerAtC hf.1 hf.2.1 h4 e k (fgA F e k) er kr rfl rfl (fgA_I F e k) ?_
    rw [i3_lt0 (by omega) (by omega), hf.1, i3_lt (by omega) (by omega) (by omega) (by omega)]
    refine ⟨fun d => ⟨fun g => ?_, fun g => ?_⟩, fun d => ?_⟩
    · have e1 : putR F e k = (F 17, ntd (putF F e k) 0) := by unfold putR; rw [if_pos c, if_pos (by omega), if_neg (by omega)]
      rw [e1] at h
      obtain ⟨n, hn⟩ : ∃ n : Nat, F 17 = n := ⟨(F 17).toNat, by omega⟩
      have hnf : nf F = n := by unfold nf; omega
      rw [hn, i3_in (by omega) (by omega), i3_n (by omega) (by omega), show ((n : Nat) : Int).toNat = n by omega, i3_add]
      have hF' : WF (putF F e k) := hF.put c (by omega)
      have pu : ∀ j, j ≠ 17 → j ≠ 18 + n → j ≠ 24 + n → putF F e k j = F j := fun j q1 q2 q3 => by unfold putF; rw [fu_n q1, fu_n (by rw [hnf]; exact q3), fu_n (by rw [hnf]; exact q2)]
      have p17 : putF F e k 17 = F 17 + 1 := fu_s
      have p18 : putF F e k (18 + n) = e := by unfold putF; rw [fu_n (by omega), fu_n (by omega), hnf, fu_s]
      have p24 : putF F e k (24 + n) = k := by unfold putF; rw [fu_n (by omega), hnf, fu_s]
      have ap : Ap F (putF F e k) := fun j hj => pu j (by omega) (by omega) (by omega)
      have f0 : FI (fun o k => o = 12 ∨ o = 13 ∨ (o = 3 ∧ k = 5)) SI (gj_u2 (gj_u2 (gj_u2 SI 12 n (i3 e)) 13 n (i3 k)) 3 5 (i3 ((n : Int) + 1))) := ((FI.rf.u (Or.inl rfl)).u (Or.inr (Or.inl rfl))).u (Or.inr (Or.inr ⟨rfl, rfl⟩))
      refine ⟨by omega, sp_settle (F := putF F e k) ((hX.f f0 ⟨by omega, fun k => by omega⟩).ap ap h1.1) ((hD.f f0 ⟨by omega, fun k => by omega⟩).ap ap h1.1) ?_ ((hh.f f0 ⟨by omega, fun k => by omega⟩).c (fun j q1 q2 => pu j (by omega) (by omega) (by omega)) ⟨h5.1, h5.2.1⟩) ((hx.f f0 ⟨by omega, by omega, fun k => by omega⟩).c (fun j q => pu j (by omega) (by omega) (by omega))) hF' 0 (by omega) rfl (fun A B k1 k2 k3 k4 k5 => ?_)⟩
      · obtain ⟨f5, fe, f6, f7, f8, f9⟩ := hf
        refine ⟨by rw [u2_s, p17, hn], fun i hi => ?_, ?_, ?_, ?_, ?_⟩
        · rw [p17, hn] at hi
          by_cases q : i = n
          · subst q
            exact ⟨by rw [u2_n (by omega), u2_n (by omega), u2_s, p18], by rw [u2_n (by omega), u2_s, p24]⟩
          · obtain ⟨a1, a2⟩ := fe i (by omega)
            exact ⟨by rw [u2_n (by omega), u2_n (by omega), u2_n (by omega), pu (18 + i) (by omega) (by omega) (by omega)]; exact a1, by rw [u2_n (by omega), u2_n (by omega), u2_n (by omega), pu (24 + i) (by omega) (by omega) (by omega)]; exact a2⟩
        · rw [u2_n (by omega), u2_n (by omega), u2_n (by omega), pu 30 (by omega) (by omega) (by omega)]; exact f6
        · rw [u2_n (by omega), u2_n (by omega), u2_n (by omega), pu 31 (by omega) (by omega) (by omega)]; exact f7
        · rw [u2_n (by omega), u2_n (by omega), u2_n (by omega), pu 32 (by omega) (by omega) (by omega)]; exact f8
        · rw [u2_n (by omega), u2_n (by omega), u2_n (by omega), pu 33 (by omega) (by omega) (by omega)]; exact f9
      · rw [hn] at h
        exact h A B ((f0.le (fun o k z => by unfold LCI; omega) : FI LCI SI _).tr (LIst_C k1)) (LJg2_C k2) ⟨k3.1, k3.2, TR.z k4 k5⟩
    · have e1 : putR F e k = (-3, F) := by unfold putR; rw [if_pos c, if_pos (by omega), if_pos (by omega)]
      rw [e1] at h; exact h SI SJ FI.rf FJ.rf hC
    · have e1 : putR F e k = (-2, F) := by unfold putR; rw [if_pos c, if_neg (by omega)]
      rw [e1] at h; exact h SI SJ FI.rf FJ.rf hC
  · rw [ibc_0] at c
    have e1 : putR F e k = (-1, F) := by unfold putR; rw [if_neg c]
    rw [e1] at h; exact h SI SJ FI.rf FJ.rf hC
theorem sp_treadC {Q : Int32 → gj_I → gj_J → Prop} {a b : Int32} (hC : CNT F SI SJ) (hF : WF F) (m q : Int) (mr : -2147483648 ≤ m ∧ m < 2147483648) (qr : -2147483648 ≤ q ∧ q < 2147483648) (ha : a = i3 m) (hb : b = i3 q) (h : ∀ SI' SJ', FI LCI SI SI' → FJ LCJ SJ SJ' → CNT (treadR F m q).2 SI' SJ' → Q (i3 (treadR F m q).1) SI' SJ') : DoI E 105 [(.ref 0), (.int a), (.int b)] SI SJ Q := by
  subst ha; subst hb
  have hC2 := hC
  obtain ⟨⟨hX, hD, hf, hh, hx⟩, hg, ht⟩ := hC2
  have hF2 := hF
  obtain ⟨h1, h2, h3, h4, h5, h6⟩ := hF2
  have bad : ¬ (0 ≤ m ∧ m ≤ 3 ∧ 1 ≤ q ∧ q ≤ 3) → Q (i3 (-1)) SI SJ := fun z => by
    have e1 : treadR F m q = (-1, F) := if_neg z
    rw [e1] at h; exact h SI SJ FI.rf FJ.rf hC
  refine st_105 _ _ SI SJ ?_
  rw [i3_lt0 (by omega) (by omega), i3_lt (by omega) (by omega) (by omega) (by omega), i3_lt (by omega) (by omega) (by omega) (by omega), i3_le (by omega) (by omega) (by omega) (by omega)]
  refine ⟨fun c => bad (by omega), fun c => ⟨fun d => bad (by omega), fun d => ⟨fun g => bad (by omega), fun g => ⟨fun t => ?_, fun t => bad (by omega)⟩⟩⟩⟩
  have cc : 0 ≤ m ∧ m ≤ 3 ∧ 1 ≤ q ∧ q ≤ 3 := by omega
  have e1 : treadR F m q = (0, ntd (trd F m q) 2) := if_pos cc
  have hF' : WF (trd F m q) := by
    have := hF.treadR m q
    refine ⟨?_, Wt_trd h2 ⟨c |> fun _ => by omega, by omega⟩ ⟨by omega, by omega⟩, Wn_trd h1.1 h3 m q, ?_, ?_, ?_⟩
    · exact (show Ap F (trd F m q) from fun k hk => trd_n (by omega)).p h1
    · unfold Wg at h4 ⊢
      rw [trd_n (by omega)]
      refine ⟨h4.1, h4.2.1, fun i hi => ?_⟩
      rw [trd_n (by omega), trd_n (by omega)]; exact h4.2.2 i hi
    · exact h5.c (fun k hk => trd_n (by omega))
    · unfold Wx at h6 ⊢
      rw [trd_n (k := 34) (by omega), trd_n (k := 116) (by omega)]
      refine ⟨h6.1, h6.2.1, h6.2.2.1, h6.2.2.2.1, fun k hk => ?_⟩
      rw [trd_n (by omega)]; exact h6.2.2.2.2 k hk
  rw [e1] at h
  have ap : Ap F (trd F m q) := fun k hk => trd_n (by omega)
  have f0 : FI (fun o k => o = 3 ∧ (k = 6 ∨ k = 7)) SI (gj_u2 (gj_u2 SI 3 6 (i3 m)) 3 7 (i3 q)) := (FI.rf.u ⟨rfl, Or.inl rfl⟩).u ⟨rfl, Or.inr rfl⟩
  refine sp_settle (F := trd F m q) ((hX.f f0 ⟨by omega, fun k => by omega⟩).ap ap h1.1) ((hD.f f0 ⟨by omega, fun k => by omega⟩).ap ap h1.1) ?_ ((hh.f f0 ⟨by omega, fun k => by omega⟩).c (fun j q1 q2 => trd_n (by omega)) ⟨h5.1, h5.2.1⟩) ((hx.f f0 ⟨by omega, by omega, fun k => by omega⟩).c (fun j q => trd_n (by omega))) hF' 2 (by omega) rfl (fun A B k1 k2 k3 k4 k5 => ?_)
  · obtain ⟨f5, fe, f6, f7, f8, f9⟩ := hf
    refine ⟨by rw [u2_n (by omega), u2_n (by omega), trd_n (by omega)]; exact f5, fun i hi => ?_, ?_, ?_, ?_, ?_⟩
    · rw [trd_n (by omega)] at hi
      have := h3.2.1
      rw [u2_n (by omega), u2_n (by omega), u2_n (by omega), u2_n (by omega), trd_n (by omega), trd_n (by omega)]; exact fe i hi
    · rw [u2_n (by omega), u2_s]; unfold trd; rw [fu_n (by omega), fu_s]
    · rw [u2_s]; unfold trd; rw [fu_s]
    · rw [u2_n (by omega), u2_n (by omega), trd_n (by omega)]; exact f8
    · rw [u2_n (by omega), u2_n (by omega), trd_n (by omega)]; exact f9
  · exact h A B ((f0.le (fun o k z => by unfold LCI; omega) : FI LCI SI _).tr (LIst_C k1)) (LJg2_C k2) ⟨k3.1, k3.2, TR.z k4 k5⟩
theorem ctr_n {x y : Int} {k : Nat} (h : k ≠ 32 ∧ k ≠ 33) : fu (fu F 32 x) 33 y k = F k := by rw [fu_n h.2, fu_n h.1]
theorem sp_centreC {Q : Int32 → gj_I → gj_J → Prop} {a b : Int32} (hC : CNT F SI SJ) (hF : WF F) (x y : Int) (xr : -2147483648 ≤ x ∧ x < 2147483648) (yr : -2147483648 ≤ y ∧ y < 2147483648) (ha : a = i3 x) (hb : b = i3 y) (h : ∀ SI' SJ', FI LCI SI SI' → FJ LCJ SJ SJ' → CNT (centreR F x y).2 SI' SJ' → Q (i3 (centreR F x y).1) SI' SJ') : DoI E 107 [(.ref 0), (.int a), (.int b)] SI SJ Q := by
  subst ha; subst hb
  have hC2 := hC
  obtain ⟨⟨hX, hD, hf, hh, hx⟩, hg, ht⟩ := hC2
  have hF2 := hF
  obtain ⟨h1, h2, h3, h4, h5, h6⟩ := hF2
  have bad : ¬ (0 ≤ x ∧ x ≤ 9 ∧ 0 ≤ y ∧ y ≤ 9) → Q (i3 (-1)) SI SJ := fun z => by
    have e1 : centreR F x y = (-1, F) := if_neg z
    rw [e1] at h; exact h SI SJ FI.rf FJ.rf hC
  refine st_107 _ _ SI SJ ?_
  rw [i3_lt0 (by omega) (by omega), i3_lt0 (by omega) (by omega), i3_lt (by omega) (by omega) (by omega) (by omega), i3_le (by omega) (by omega) (by omega) (by omega)]
  refine ⟨fun c => bad (by omega), fun c => ⟨fun d => bad (by omega), fun d => ⟨fun g => bad (by omega), fun g => ⟨fun t => ?_, fun t => bad (by omega)⟩⟩⟩⟩
  have cc : 0 ≤ x ∧ x ≤ 9 ∧ 0 ≤ y ∧ y ≤ 9 := by omega
  have e1 : centreR F x y = (0, ntd (fu (fu F 32 x) 33 y) 3) := if_pos cc
  have ap : Ap F (fu (fu F 32 x) 33 y) := fun k hk => ctr_n (by omega)
  have hF' : WF (fu (fu F 32 x) 33 y) := by
    refine ⟨ap.p h1, ?_, ?_, ?_, ?_, ?_⟩
    · obtain ⟨t1, t2, t3, t4, -⟩ := h2
      unfold Wt
      rw [ctr_n (k := 30) (by omega), ctr_n (k := 31) (by omega), fu_s, fu_n (j := 32) (by omega), fu_s]
      exact ⟨t1, t2, t3, t4, cc⟩
    · obtain ⟨a1, a2, a3⟩ := h3
      refine ⟨by rw [ctr_n (by omega)]; exact a1, by rw [ctr_n (by omega)]; exact a2, fun j hj => ?_⟩
      rw [ctr_n (by omega)] at hj
      rw [ctr_n (by omega), ctr_n (by omega), ap.n, (ap.s h1.1).1]; exact a3 j hj
    · unfold Wg at h4 ⊢
      rw [ctr_n (by omega)]
      refine ⟨h4.1, h4.2.1, fun i hi => ?_⟩
      rw [ctr_n (by omega), ctr_n (by omega)]; exact h4.2.2 i hi
    · exact h5.c (fun k hk => ctr_n (by omega))
    · unfold Wx at h6 ⊢
      rw [ctr_n (k := 34) (by omega), ctr_n (k := 116) (by omega)]
      refine ⟨h6.1, h6.2.1, h6.2.2.1, h6.2.2.2.1, fun k hk => ?_⟩
      rw [ctr_n (by omega)]; exact h6.2.2.2.2 k hk
  rw [e1] at h
  have f0 : FI (fun o k => o = 3 ∧ (k = 8 ∨ k = 9)) SI (gj_u2 (gj_u2 SI 3 8 (i3 x)) 3 9 (i3 y)) := (FI.rf.u ⟨rfl, Or.inl rfl⟩).u ⟨rfl, Or.inr rfl⟩
  refine sp_settle (F := fu (fu F 32 x) 33 y) ((hX.f f0 ⟨by omega, fun k => by omega⟩).ap ap h1.1) ((hD.f f0 ⟨by omega, fun k => by omega⟩).ap ap h1.1) ?_ ((hh.f f0 ⟨by omega, fun k => by omega⟩).c (fun j q1 q2 => ctr_n (by omega)) ⟨h5.1, h5.2.1⟩) ((hx.f f0 ⟨by omega, by omega, fun k => by omega⟩).c (fun j q => ctr_n (by omega))) hF' 3 (by omega) rfl (fun A B k1 k2 k3 k4 k5 => ?_)
  · obtain ⟨f5, fe, f6, f7, f8, f9⟩ := hf
    refine ⟨by rw [u2_n (by omega), u2_n (by omega), ctr_n (by omega)]; exact f5, fun i hi => ?_, ?_, ?_, ?_, ?_⟩
    · rw [ctr_n (by omega)] at hi
      have := h3.2.1
      rw [u2_n (by omega), u2_n (by omega), u2_n (by omega), u2_n (by omega), ctr_n (by omega), ctr_n (by omega)]; exact fe i hi
    · rw [u2_n (by omega), u2_n (by omega), ctr_n (by omega)]; exact f6
    · rw [u2_n (by omega), u2_n (by omega), ctr_n (by omega)]; exact f7
    · rw [u2_n (by omega), u2_s, fu_n (by omega), fu_s]
    · rw [u2_s, fu_s]
  · exact h A B ((f0.le (fun o k z => by unfold LCI; omega) : FI LCI SI _).tr (LIst_C k1)) (LJg2_C k2) ⟨k3.1, k3.2, TR.z k4 k5⟩
end OpsC
