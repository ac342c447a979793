/-! ak: plate of the class -/
def TDc (t : Nat → V3) (c : Nat) (SI : gj_I) : Prop := ∀ j, j < c → SI 30 j = i3 (t j).1 ∧ SI 31 j = i3 (t j).2.1
def LCg (o k : Nat) : Prop := (o = 1 ∧ k = 2) ∨ o = 30 ∨ o = 31
def LCq (o k : Nat) : Prop := LCg o k ∨ (o = 29 ∧ k = 7)
section PlateT
variable {E : gj_E} {SI : gj_I} {SJ : gj_J} {F : Nat → Int} {T : Nat → Int} {n p c : Nat} {t : Nat → V3}
theorem nm1_d (h : dg T n p) : nm T n 1 p = .inr (hr T n p - 48, p + 1) := by
  have e : nmL T n 1 p 0 = (10 * 0 + hr T n p - 48, p + 1) := if_pos h
  unfold nm
  rw [if_pos h, if_neg (fun z => z.2 rfl), e, show 10 * 0 + hr T n p - 48 = hr T n p - 48 by omega]
theorem nm1_n (h : ¬ dg T n p) : nm T n 1 p = .inl (-1000 - p) := if_neg h
theorem crn_1 (hc : c < 8) (h : ¬ dg T n p) : crnP T n c p = .inl (-1000 - p) := by
  unfold crnP; rw [if_neg (by omega), nm1_n h]
theorem crn_2 (hc : c < 8) (h : dg T n p) (h2 : hr T n (p + 1) ≠ 44) : crnP T n c p = .inl (-1000 - ((p + 1 : Nat) : Int)) := by
  unfold crnP; rw [if_neg (by omega), nm1_d h]; dsimp only; rw [if_neg h2]
theorem crn_3 (hc : c < 8) (h : dg T n p) (h2 : hr T n (p + 1) = 44) (h3 : ¬ dg T n (p + 1 + 1)) : crnP T n c p = .inl (-1000 - ((p + 1 + 1 : Nat) : Int)) := by
  unfold crnP; rw [if_neg (by omega), nm1_d h]; dsimp only; rw [if_pos h2, nm1_n h3]
theorem crn_4 (hc : c < 8) (h : dg T n p) (h2 : hr T n (p + 1) = 44) (h3 : dg T n (p + 1 + 1)) : crnP T n c p = .inr ((hr T n p - 48, hr T n (p + 1 + 1) - 48, 0), p + 1 + 1 + 1) := by
  unfold crnP; rw [if_neg (by omega), nm1_d h]; dsimp only; rw [if_pos h2, nm1_d h3]
theorem sp_cornerC1 {Q : Int32 → gj_I → gj_J → Prop} {a : Int32} (hP : CP T n p SI) (hc : c < 8) (hO : TDc t c SI) (ha : a = i3 c) (hE : ∀ e SI', crnP T n c p = .inl e → FI LCg SI SI' → (-5000 ≤ e ∧ e < 0) → CT T SI' → Q (i3 e) SI' SJ) (hK : ∀ v q SI', crnP T n c p = .inr (v, q) → FI LCg SI SI' → CP T n q SI' → TDc (tu t c v) (c + 1) SI' → (0 ≤ v.1 ∧ v.1 ≤ 9 ∧ 0 ≤ v.2.1 ∧ v.2.1 ≤ 9) → Q (i3 0) SI' SJ) : DoI E 35 [(.ref 29), (.ref 1), (.int a)] SI SJ Q := by
  subst ha
  have hn := hP.2.1
  have hp := hP.2.2.1
  refine st_35 _ SI SJ (sp_isDigC hP ⟨fun d => ?_, fun d => ?_⟩)
  · rw [ib_0, Decidable.not_not] at d
    have lt := hr_lt (show 0 ≤ hr T n p by omega)
    refine sp_sign hP.1 hP.2.1 hP.2.2.2.1 p (by omega) hP.2.2.2.2 ?_
    rw [i3_in (by omega) (by omega), i3_n (by omega) (by omega), show ((c : Nat) : Int).toNat = c by omega, i3_sub, hP.2.2.2.2, i3_add]
    refine ⟨by omega, ?_⟩
    have f1 : FI (fun o k => LCp o k ∨ ((o = 30 ∨ o = 31) ∧ k = c)) SI (gj_u2 (gj_u2 SI 30 c (i3 (hr T n p - 48))) 1 2 (i3 ((p : Int) + 1))) := (FI.rf.u (Or.inr ⟨Or.inl rfl, rfl⟩)).u (Or.inl ⟨rfl, rfl⟩)
    have hP1 : CP T n (p + 1) (gj_u2 (gj_u2 SI 30 c (i3 (hr T n p - 48))) 1 2 (i3 ((p : Int) + 1))) := (hP.uo (o := 30) (by decide)).to (FI.rf.u ⟨rfl, rfl⟩) (by omega) (by rw [u2_s]; rfl)
    have v1 : (gj_u2 (gj_u2 SI 30 c (i3 (hr T n p - 48))) 1 2 (i3 ((p : Int) + 1))) 30 c = i3 (hr T n p - 48) := by rw [u2_n (by omega), u2_s]
    generalize gj_u2 (gj_u2 SI 30 c (i3 (hr T n p - 48))) 1 2 (i3 ((p : Int) + 1)) = A at *
    have cg : ∀ {X Y : gj_I}, FI (fun o k => LCp o k ∨ ((o = 30 ∨ o = 31) ∧ k = c)) X Y → FI LCg X Y := fun z => z.le (fun o k y => by unfold LCp at y; unfold LCg; omega)
    refine sp_accept hP1 44 (by decide) rfl (fun w B g hB => ⟨fun z => absurd z (by decide), fun _ => ?_⟩) (fun w => ⟨fun _ => ?_, fun z => absurd rfl z⟩)
    · have f2 := f1.tr (g.le (fun o k y => Or.inl y) : FI (fun o k => LCp o k ∨ ((o = 30 ∨ o = 31) ∧ k = c)) A B)
      have hq := hB.2.2.1
      refine sp_isDigC hB ⟨fun d2 => ?_, fun d2 => ?_⟩
      · rw [ib_0, Decidable.not_not] at d2
        have lt2 := hr_lt (show 0 ≤ hr T n (p + 1 + 1) by omega)
        refine sp_sign hB.1 hB.2.1 hB.2.2.2.1 (p + 1 + 1) (by omega) hB.2.2.2.2 ?_
        rw [i3_sub, hB.2.2.2.2, i3_add]
        refine hK _ _ _ (crn_4 hc d w d2) (cg ((f2.u (Or.inr ⟨Or.inr rfl, rfl⟩)).u (Or.inl ⟨rfl, rfl⟩))) ((hB.uo (o := 31) (by decide)).to (FI.rf.u ⟨rfl, rfl⟩) (by omega) (by rw [u2_s]; rfl)) (fun j hj => ?_) ⟨by dsimp only; omega, by dsimp only; omega, by dsimp only; omega, by dsimp only; omega⟩
        by_cases e : j = c
        · subst e
          rw [tu_s]
          refine ⟨?_, ?_⟩
          · rw [u2_n (by omega), u2_n (by omega), g 30 j (by unfold LCp; omega)]; exact v1
          · rw [u2_n (by omega), u2_s]
        · rw [tu_n e]
          have o := hO j (by omega)
          refine ⟨?_, ?_⟩
          · rw [u2_n (by omega), u2_n (by omega), f2 30 j (by unfold LCp; omega)]; exact o.1
          · rw [u2_n (by omega), u2_n (by omega), f2 31 j (by unfold LCp; omega)]; exact o.2
      · rw [ib_0] at d2
        exact sp_faultC hB.2.2.2.2 1 rfl (hE _ B (crn_3 hc d w d2) (cg f2) (by omega) hB.1)
    · exact sp_faultC hP1.2.2.2.2 1 rfl (hE _ A (crn_2 hc d w) (cg f1) (by omega) hP1.1)
  · rw [ib_0] at d
    exact sp_faultC hP.2.2.2.2 1 rfl (hE _ SI (crn_1 hc d) FI.rf (by omega) hP.1)
theorem lay_n (h1 : 1 ≤ c) : nC (layF F c t) = c := by
  unfold nC
  rw [layF_lo (by decide)]
  unfold lay
  rw [if_pos rfl]; omega
theorem lay_x (h1 : 1 ≤ c) (h8 : c ≤ 8) {i : Nat} (hi : i < c) : cx (layF F c t) i = (t i).1 ∧ cy (layF F c t) i = (t i).2.1 := by
  unfold cx cy
  rw [lay_n h1, Nat.mod_eq_of_lt hi, layF_lo (by omega), layF_lo (by omega)]
  unfold lay
  rw [if_neg (by omega), if_pos (by omega), if_neg (by omega), if_neg (by omega), if_pos (by omega), show 1 + i - 1 = i by omega, show 9 + i - 9 = i by omega]
  exact ⟨rfl, rfl⟩
theorem sp_readP {Q : Int32 → gj_I → gj_J → Prop} (hP : CP T n 0 SI) (hW : Wc F) (hE : ∀ e SI', rd (crnP T n) T n 8 = .inl e → FI LCq SI SI' → (-5000 ≤ e ∧ e < 0) → CT T SI' → Q (i3 e) SI' SJ) (hN : ∀ c t SI', rd (crnP T n) T n 8 = .inr (c, t) → ¬ plt (layF F c t) → FI LCq SI SI' → CT T SI' → Q (i3 (-5000 - n)) SI' SJ) (hK : ∀ c t SI', rd (crnP T n) T n 8 = .inr (c, t) → plt (layF F c t) → FI LCq SI SI' → CT T SI' → (1 ≤ c ∧ c ≤ 8) → Cb t c → PX29 (layF F c t) SI' → Q (i3 0) SI' SJ) : DoI E 34 [(.ref 29), (.ref 1)] SI SJ Q := by
  have hn := hP.2.1
  rw [rd_C] at hE hN hK
  refine st_34 SI SJ ?_
  have loop : ∀ (f c p : Nat) (t : Nat → V3) (A : gj_I), c + f = 8 → rdC (crnP T n) T n f c p t = rdC (crnP T n) T n 8 0 0 (fun _ => (0, 0, 0)) → FI LCq SI A → CP T n p A → TDc t c A → Cb t c → GoI E mt_34 7 [some (.ref 29), some (.ref 1), some (.int (i3 (c : Nat))), none] A SJ Q := by
    intro f
    induction f with
    | zero =>
      intro c p t A hc e fA hA hO hb
      have pn := hA.2.2.1
      have c8 : c = 8 := by omega
      subst c8
      refine lp_34_7 _ A SJ ⟨fun _ => sp_isDigC hA ⟨fun d => ?_, fun d => ?_⟩, fun q => absurd (by decide) q⟩
      · rw [ib_0] at d
        have e2 : crnP T n 8 p = .inl (-1000 - p) := by unfold crnP; rw [if_neg (fun z => d z.2), nm1_n d]
        rw [rdC_l e2] at e
        exact sp_faultC hA.2.2.2.2 1 rfl (hE _ A e.symm fA (by omega) hA.1)
      · rw [ib_0, Decidable.not_not] at d
        have e2 : crnP T n 8 p = .inl (-4000 - p) := by unfold crnP; rw [if_pos ⟨rfl, d⟩]
        rw [rdC_l e2] at e
        exact sp_faultC hA.2.2.2.2 4 rfl (hE _ A e.symm fA (by omega) hA.1)
    | succ f ih =>
      intro c p t A hc e fA hA hO hb
      have pn := hA.2.2.1
      refine lp_34_7 _ A SJ ⟨fun q => ?_, fun _ => sp_cornerC1 hA (by omega) hO rfl (fun e1 B z g b hB => ?_) (fun v q B z g hB hO2 hv => ?_)⟩
      · rw [i3_le (by omega) (by omega) (by omega) (by omega)] at q; omega
      · rw [rdC_l z] at e
        rw [i3_0le (by omega) (by omega)]
        exact ⟨fun y => by omega, fun _ => hE e1 B e.symm (fA.tr (g.le (fun o k y => Or.inl y))) b hB⟩
      · rw [rdC_r z] at e
        have qn := hB.2.2.1
        refine ⟨fun _ => ?_, fun y => absurd (by decide) y⟩
        rw [i3_add]
        have fB1 : FI LCq SI (gj_u2 B 29 7 (i3 ((c : Int) + 1))) := (fA.tr (g.le (fun o k y => Or.inl y))).u (Or.inr ⟨rfl, rfl⟩)
        have hB1 : CP T n q (gj_u2 B 29 7 (i3 ((c : Int) + 1))) := hB.uo (by decide)
        have hO3 : TDc (tu t c v) (c + 1) (gj_u2 B 29 7 (i3 ((c : Int) + 1))) := fun j hj => by rw [u2_n (by omega), u2_n (by omega)]; exact hO2 j hj
        have h29 : (gj_u2 B 29 7 (i3 ((c : Int) + 1))) 29 7 = i3 ((c + 1 : Nat) : Int) := by rw [u2_s]; rfl
        have hb2 : Cb (tu t c v) (c + 1) := fun j hj => by
          by_cases e : j = c
          · subst e; rw [tu_s]; exact hv
          · rw [tu_n e]; exact hb j (by omega)
        generalize gj_u2 B 29 7 (i3 ((c : Int) + 1)) = B1 at *
        refine sp_ended hB1 ⟨fun y => ?_, fun y => ?_⟩
        · rw [ib_0] at y
          refine sp_accept hB1 59 (by decide) rfl (fun w C gC hC => ⟨fun _ => ?_, fun z => absurd z (by decide)⟩) (fun w => ⟨fun z => absurd rfl z, fun _ => ?_⟩)
          · rw [rdT_g (by omega) w] at e
            exact ih (c + 1) (q + 1) (tu t c v) C (by omega) e (fB1.tr (gC.le (fun o k y => Or.inl (Or.inl y)))) hC (fun j hj => by rw [gC 30 j (by unfold LCp; omega), gC 31 j (by unfold LCp; omega)]; exact hO3 j hj) hb2
          · rw [rdT_b (by omega) w] at e
            exact sp_faultC hB1.2.2.2.2 1 rfl (hE _ B1 e.symm fB1 (by omega) hB1.1)
        · rw [ib_0, Decidable.not_not] at y
          rw [rdT_e y] at e
          have qe : q = n := by omega
          have hX : PX29 (layF F (c + 1) (tu t c v)) B1 := by
            refine ⟨?_, fun i hi => ?_⟩
            · rw [h29]
              refine i3_c ?_
              rw [layF_lo (by decide)]; unfold lay; rw [if_pos rfl]
            · rw [lay_n (by omega)] at hi
              obtain ⟨x1, x2⟩ := lay_x (F := F) (t := tu t c v) (show 1 ≤ c + 1 by omega) (show c + 1 ≤ 8 by omega) hi
              rw [x1, x2]; exact hO3 i hi
          refine sp_stands hX (layF_c hW (by omega) (by omega) hb2) ⟨fun z => ?_, fun z => ?_⟩
          · rw [ibc_0] at z
            refine sp_faultC hB1.2.2.2.2 5 rfl ?_
            rw [qe]
            exact hN (c + 1) _ B1 e.symm z fB1 hB1.1
          · rw [ibc_0, Classical.not_not] at z
            exact hK (c + 1) _ B1 e.symm z fB1 hB1.1 (by omega) hb2 hX
  exact loop 8 0 0 (fun _ => (0, 0, 0)) _ (by omega) rfl (FI.rf.u (Or.inr ⟨rfl, rfl⟩)) (hP.uo (by decide)) (fun j hj => absurd hj (Nat.not_lt_zero j)) (fun j hj => absurd hj (Nat.not_lt_zero j))
theorem plt_s (h : plt F) (e : Nat) (hW : Wc F) : 1 ≤ stp F e := by
  apply Classical.byContradiction
  intro z
  have z0 : stp F e = 0 := by omega
  unfold stp at z0
  obtain ⟨z1, z2⟩ := Int.gcd_eq_zero_iff.mp z0
  have lt := Nat.mod_lt e hW.n.1
  refine h.2.1 (e % nC F) lt ?_
  have e1 : cx F (e % nC F + 1) = cx F (e + 1) ∧ cy F (e % nC F + 1) = cy F (e + 1) := by
    unfold cx cy; rw [Nat.mod_add_mod]; exact ⟨rfl, rfl⟩
  unfold sd
  rw [e1.1, e1.2, (cx_m e).1, (cx_m e).2, z1, z2, Int.zero_mul, Int.zero_mul]; rfl
theorem WF.lay (h : WF F) (h1 : 1 ≤ c) (h8 : c ≤ 8) (hb : Cb t c) (hp : plt (layF F c t)) : WF (layF F c t) ∧ Wa (layF F c t) := by
  have hc := layF_c h.1.1 h1 h8 hb
  obtain ⟨-, w2, w3, w4, w5, w6⟩ := h
  have hi : ∀ j, 17 < j → j ≠ 32 → j ≠ 33 → j ≠ 35 → layF F c t j = F j := fun j a b c d => layF_hi h8 a b c d
  have e17 : layF F c t 17 = 0 := by unfold layF; rw [fu_n (by omega), fu_n (by omega), fu_n (by omega), fu_s]
  have e32 : layF F c t 32 = 2 := by unfold layF; rw [fu_n (by omega), fu_n (by omega), fu_s]
  have e33 : layF F c t 33 = 2 := by unfold layF; rw [fu_n (by omega), fu_s]
  have e35 : layF F c t 35 = 0 := by unfold layF; rw [fu_s]
  refine ⟨⟨⟨hc, hp.1, fun e => plt_s hp e hc⟩, ?_, ?_, ?_, ?_, ?_⟩, hp.2.2.2⟩
  · unfold Wt
    rw [hi 30 (by omega) (by omega) (by omega) (by omega), hi 31 (by omega) (by omega) (by omega) (by omega), e32, e33]
    obtain ⟨a1, a2, a3, a4, -⟩ := w2
    exact ⟨a1, a2, a3, a4, by decide, by decide, by decide, by decide⟩
  · refine ⟨by rw [e17]; decide, by rw [e17]; decide, fun i hi2 => ?_⟩
    rw [e17] at hi2; omega
  · refine ⟨by rw [e17]; decide, by rw [e17]; decide, fun i hi2 => ?_⟩
    rw [hi _ (by omega) (by omega) (by omega) (by omega), hi _ (by omega) (by omega) (by omega) (by omega)]; exact w4.2.2 i hi2
  · refine ⟨by rw [e35]; decide, by rw [e35]; decide, fun j hj => ?_⟩
    rw [e35] at hj; omega
  · obtain ⟨a1, a2, a3, a4, a5⟩ := w6
    unfold Wx
    rw [hi 34 (by omega) (by omega) (by omega) (by omega), hi 116 (by omega) (by omega) (by omega) (by omega)]
    refine ⟨a1, a2, a3, a4, fun k hk => ?_⟩
    rw [hi (117 + k) (by omega) (by omega) (by omega) (by omega)]; exact a5 k hk
end PlateT
