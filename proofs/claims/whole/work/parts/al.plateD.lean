/-! al: plate of the class, second half; what stays true of the file -/
section PlateD
variable {E : gj_E} {SI : gj_I} {SJ : gj_J} {F G : Nat → Int} {T : Nat → Int} {n p c : Nat} {t : Nat → V3}
theorem sp_plateC {Q : Int32 → gj_I → gj_J → Prop} {a : Int32} (hC : CNT F SI SJ) (hF : WF F) (tp : Int) (hT : CTp T tp SI) (x : Int) (xr : -2147483648 ≤ x ∧ x < 2147483648) (ha : a = i3 x) (h : ∀ SI' SJ', FI LTX SI SI' → FJ LCJ SJ SJ' → CTp T (tpR tp x 60) SI' → CNT (plateR T F tp x).2 SI' SJ' → Q (i3 (plateR T F tp x).1) SI' SJ') : DoI E 92 [(.ref 0), (.int a)] SI SJ Q := by
  subst ha
  have hT0 := hT
  obtain ⟨hT, ht, t1, t2⟩ := hT
  unfold plateR tpR at h
  refine st_92 _ SI SJ (sp_offersC tp x 1 60 xr (by decide) (by decide) ht ⟨t1, t2⟩ rfl rfl rfl ⟨fun q => ?_, fun q => ?_⟩)
  · rw [ib_0, Decidable.not_not] at q
    rw [if_pos q, if_pos q] at h
    refine sp_open tp x hT ht ⟨t1, t2⟩ (by omega) rfl (fun A fA hA => ?_)
    have fA2 : FI LTX SI A := fA.le (fun o k z => by unfold LTX LCT; omega)
    have lx : ∀ {X Y : gj_I}, FI LCq X Y → FI LTX X Y := fun z => z.le (fun o k y => by unfold LCq LCg at y; unfold LTX LCT LCI; omega)
    have wx : ∀ {X Y : gj_I}, FI (fun o k => o = 1 ∧ (k = 1 ∨ k = 2 ∨ k = 3)) X Y → FI LTX X Y := fun z => z.le (fun o k y => by unfold LTX LCT; omega)
    have low : ∀ {B C : gj_I}, FI LCq A B → FI (fun o k => o = 1 ∧ (k = 1 ∨ k = 2 ∨ k = 3)) B C → FI (fun o _k => o = 1 ∨ (29 ≤ o ∧ o ≤ 31)) SI C := fun z y => ((fA.le (fun o k w => Or.inl w.1)).tr (z.le (fun o k w => by unfold LCq LCg at w; omega))).tr (y.le (fun o k w => Or.inl w.1))
    refine sp_readP hA hF.1.1 (fun e B z g b hB => ?_) (fun c t B z np g hB => ?_) (fun c t B z yp g hB c8 hb hX => ?_)
    · rw [z] at h
      refine sp_wipe hB (fun C gC hC2 => ?_)
      rw [i3_0le (by omega) (by omega)]
      exact ⟨fun y => by omega, fun _ => h C SJ ((fA2.tr (lx g)).tr (wx gC)) FJ.rf hC2 (hC.same (low g gC) (fun o k z => by omega))⟩
    · rw [z] at h
      have e1 : plE F x (.inr (c, t)) = (-5000 - x, F) := if_neg np
      rw [e1] at h
      refine sp_wipe hB (fun C gC hC2 => ?_)
      have ex : -5000 - ((x.toNat : Nat) : Int) = -5000 - x := by omega
      rw [ex, i3_0le (by omega) (by omega)]
      exact ⟨fun y => by omega, fun _ => h C SJ ((fA2.tr (lx g)).tr (wx gC)) FJ.rf hC2 (hC.same (low g gC) (fun o k z => by omega))⟩
    · rw [z] at h
      have e1 : plE F x (.inr (c, t)) = ((c : Int), layF F c t) := if_pos yp
      rw [e1] at h
      dsimp only at h
      obtain ⟨hG, -⟩ := hF.lay c8.1 c8.2 hb yp
      refine sp_wipe hB (fun C gC hC2 => ?_)
      have hXC : PX29 (layF F c t) C := hX.f gC ⟨by omega, fun k => by omega⟩
      obtain ⟨⟨-, -, hf, -, hx⟩, -, -⟩ := hC.same (low g gC) (fun o k z => by omega)
      have fC := (fA2.tr (lx g)).tr (wx gC)
      rw [i3_0le (by omega) (by omega)]
      refine ⟨fun _ => st_61 C SJ (sp_copyP4_29 hXC hG.1 (fun D fD hX4 hD4 => ?_)), fun y => by omega⟩
      have hi : ∀ j, 17 < j → j ≠ 32 → j ≠ 33 → j ≠ 35 → layF F c t j = F j := fun j a b c d => layF_hi c8.2 a b c d
      have e17 : layF F c t 17 = 0 := by unfold layF; rw [fu_n (by omega), fu_n (by omega), fu_n (by omega), fu_s]
      have e32 : layF F c t 32 = 2 := by unfold layF; rw [fu_n (by omega), fu_n (by omega), fu_s]
      have e33 : layF F c t 33 = 2 := by unfold layF; rw [fu_n (by omega), fu_s]
      have e35 : layF F c t 35 = 0 := by unfold layF; rw [fu_s]
      have e0 : layF F c t 0 = c := by rw [layF_lo (by decide)]; unfold lay; rw [if_pos rfl]
      have f3 : FI (fun o k => o = 3 ∧ (k = 5 ∨ k = 8 ∨ k = 9 ∨ k = 11)) D (gj_u2 (gj_u2 (gj_u2 (gj_u2 D 3 5 (i3 0)) 3 8 (i3 2)) 3 9 (i3 2)) 3 11 (i3 0)) := (((FI.rf.u (by omega)).u (by omega)).u (by omega)).u (by omega)
      have fd3 : ∀ k, D 3 k = C 3 k := fun k => fD 3 k (by unfold LD4; omega)
      have hX4' := hX4.f f3 ⟨by omega, fun k => by omega⟩
      have hD4' := hD4.f f3 ⟨by omega, fun k => by omega⟩
      have hf' : NSf3 (layF F c t) (gj_u2 (gj_u2 (gj_u2 (gj_u2 D 3 5 (i3 0)) 3 8 (i3 2)) 3 9 (i3 2)) 3 11 (i3 0)) := by
        refine ⟨?_, fun i hi2 => ?_, ?_, ?_, ?_, ?_⟩
        · rw [u2_n (by omega), u2_n (by omega), u2_n (by omega), u2_s, e17]
        · rw [e17] at hi2; omega
        · rw [f3 3 6 (by omega), fd3, hi 30 (by omega) (by omega) (by omega) (by omega)]; exact hf.2.2.1
        · rw [f3 3 7 (by omega), fd3, hi 31 (by omega) (by omega) (by omega) (by omega)]; exact hf.2.2.2.1
        · rw [u2_n (by omega), u2_n (by omega), u2_s, e32]
        · rw [u2_n (by omega), u2_s, e33]
      have h11 : (gj_u2 (gj_u2 (gj_u2 (gj_u2 D 3 5 (i3 0)) 3 8 (i3 2)) 3 9 (i3 2)) 3 11 (i3 0)) 3 11 = i3 0 := u2_s
      have hx' : NSx3 (layF F c t) (gj_u2 (gj_u2 (gj_u2 (gj_u2 D 3 5 (i3 0)) 3 8 (i3 2)) 3 9 (i3 2)) 3 11 (i3 0)) := by
        refine ((hx.f fD ?_).f f3 ⟨by omega, by omega, fun k => by omega⟩).c (fun k hk => hi k (by omega) (by omega) (by omega) (by omega))
        unfold LD4; exact ⟨by omega, by omega, fun k => by omega⟩
      have fT : FI LTX SI (gj_u2 (gj_u2 (gj_u2 (gj_u2 D 3 5 (i3 0)) 3 8 (i3 2)) 3 9 (i3 2)) 3 11 (i3 0)) := (fC.tr (fD.le (fun o k z => by unfold LD4 at z; unfold LTX LCT LCI; omega))).tr (f3.le (fun o k z => by unfold LTX LCT LCI; omega))
      have hT3 : CTp T 0 (gj_u2 (gj_u2 (gj_u2 (gj_u2 D 3 5 (i3 0)) 3 8 (i3 2)) 3 9 (i3 2)) 3 11 (i3 0)) := by
        obtain ⟨c1, c2, c3, c4⟩ := hC2
        refine ⟨(c1.f fD (fun k => by unfold LD4; omega)).f f3 (fun k => by omega), ?_, c3, c4⟩
        rw [f3 1 1 (by omega), fD 1 1 (by unfold LD4; omega)]; exact c2
      generalize gj_u2 (gj_u2 (gj_u2 (gj_u2 D 3 5 (i3 0)) 3 8 (i3 2)) 3 9 (i3 2)) 3 11 (i3 0) = D1 at *
      refine sp_refresh hX4' hD4' hf' hG.1 hG.2.1 hG.2.2.1 (fun A2 B2 l1 l2 l3 l4 l5 => ?_)
      have hXA : PX4 (layF F c t) A2 := hX4'.f l1 (by unfold LIg2; exact ⟨by omega, fun k => by omega⟩)
      rw [hXA.1, e0]
      refine h A2 B2 (fT.tr (l1.le (fun o k z => by unfold LIg2 at z; unfold LTX LCT LCI; omega))) (l2.le (fun o k z => by unfold LJg2 at z; unfold LCJ; omega)) ?_ ⟨⟨hXA, hD4'.f l1 (by unfold LIg2; exact ⟨by omega, fun k => by omega⟩), hf'.f l1 (by unfold LIg2; exact ⟨by omega, fun k => by omega⟩), ⟨?_, fun k w hk => ?_⟩, hx'.f l1 (by unfold LIg2; exact ⟨by omega, by omega, fun k => by omega⟩)⟩, l3, TR.z l4 l5⟩
      · obtain ⟨c1, c2, c3, c4⟩ := hT3
        exact ⟨c1.f l1 (fun k => by unfold LIg2; omega), by rw [l1 1 1 (by unfold LIg2; omega)]; exact c2, c3, c4⟩
      · rw [l1 3 11 (by unfold LIg2; omega), h11, e35]
      · rw [e35] at hk; omega
  · rw [ib_0] at q
    rw [if_neg q, if_neg q] at h
    exact h SI SJ FI.rf FJ.rf hT0 hC
end PlateD
