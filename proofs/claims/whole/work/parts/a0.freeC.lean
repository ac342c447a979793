/-! a0: free of the class -/
section FreeC
variable {E : gj_E} {SI : gj_I} {SJ : gj_J} {F : Nat → Int}
/-- sought: what is there after -/
theorem sp_seekR {Q : gj_I → gj_J → Prop} {a : Int32} (hC : CNT F SI SJ) (hF : WF F) (ha : a = i3 (rkF F)) (h : ∀ SI' SJ', FI LIfc SI SI' → FJ LJrl SJ SJ' → (rkF F = 3 → RFc (frs (WW F) (nW F)) SI' SJ' ∧ (frs (WW F) (nW F)).1 ≤ 12) → (∀ p, freeO F = some p → CX p SJ') → Q SI' SJ') : DoV E 44 [(.ref 61), (.ref 42), (.int a)] SI SJ Q := by
  subst ha
  obtain ⟨ri, r0, r3⟩ := rkF_I F
  have hW := hF.1; have hT := hF.2.1; have hN := hF.2.2.1
  have nb : nW F ≤ 12 := nw_b hN
  have hB : Wb (WW F) (nW F) := Wl_b hW hT (hN.ok hW.1)
  have f0 : FI LIfc SI (gj_u2 SI 61 3 (i3 0)) := FI.rf.u ⟨rfl, rfl⟩
  have hC2 := hC.r f0 FJ.rf
  obtain ⟨g1, g2, -, -⟩ := hC2.2.1
  have jx : ∀ {A B : gj_J}, FJ LJcx A B → FJ LJrl A B := fun z => z.le (fun o k y => Or.inr y)
  refine st_44 _ SI SJ ?_
  rw [i3_eq (by omega) (by omega) (by omega) (by omega), i3_eq (by omega) (by omega) (by omega) (by omega)]
  refine ⟨fun n3 => ⟨fun n2 => ?_, fun e2 => ?_⟩, fun e3 => ?_⟩
  · have nr2 : ¬ R2 (WW F) (nW F) (fullS (nW F)) := by
      rcases ri with ⟨z, -⟩ | ⟨-, ⟨z, -⟩ | ⟨z, -⟩⟩
      · exact absurd z n3
      · exact absurd z n2
      · exact z
    refine sp_seekLine g1 (by omega) hB (fun B f1 k1 => h _ B f0 (jx f1) (fun z => absurd z n3) (fun p hp => ?_))
    have e : freeO F = some (acrA (WW F) (nW F) (rkF F)) := if_neg n3
    rw [e] at hp
    injection hp with hp
    rw [← hp, acr_1 (W := WW F) (n := nW F) n2 (fun k hk => ?_) (fun k hk => Wl_z hW hT _ k)]
    · exact k1
    · apply Classical.byContradiction
      intro z
      apply nr2
      have k0 : k ≠ 0 := fun y => z (by rw [y]; unfold crs; rw [show (WW F 0).2.1 * (WW F 0).2.2 - (WW F 0).2.2 * (WW F 0).2.1 = 0 by grind, show (WW F 0).2.2 * (WW F 0).1 - (WW F 0).1 * (WW F 0).2.2 = 0 by grind, show (WW F 0).1 * (WW F 0).2.1 - (WW F 0).2.1 * (WW F 0).1 = 0 by grind])
      exact ⟨0, k, by omega, inS_f.mpr (by omega), inS_f.mpr hk, z⟩
  · have r2 : R2 (WW F) (nW F) (fullS (nW F)) := by
      rcases ri with ⟨z, -⟩ | ⟨-, ⟨-, z⟩ | ⟨-, ⟨z, -⟩ | ⟨z, -⟩⟩⟩
      · exact absurd z n3
      · exact z
      · omega
      · omega
    obtain ⟨p, hp⟩ := crAny_ex r2
    refine sp_seekPlane g1.1 g2 (by omega) hB p hp (fun B f1 k1 => h _ B f0 (jx f1) (fun z => absurd z n3) (fun v hv => ?_))
    have e : freeO F = some (acrA (WW F) (nW F) (rkF F)) := if_neg n3
    rw [e, e2, acr_2 hp] at hv
    injection hv with hv
    rw [← hv]; exact k1
  · have r3 : R3 (WW F) (nW F) (fullS (nW F)) := by
      rcases ri with ⟨-, z⟩ | ⟨-, ⟨z, -⟩ | ⟨-, ⟨z, -⟩ | ⟨z, -⟩⟩⟩
      · exact z
      · omega
      · omega
      · omega
    refine sp_seekAllC g1.1 g2 nb hB r3 u2_s (fun A B k => ?_)
    obtain ⟨k1, k2, k3, -, k5, k6⟩ := k
    rw [skA_2] at k3 k5
    rw [skA_1] at k6
    have few := k5.few r3
    refine h A B (f0.tr k1) k2 (fun _ => ⟨k3, by omega⟩) (fun p hp => k6 p ?_)
    have e : freeO F = frFst (WW F) (nW F) := if_pos e3
    rw [← e]; exact hp
end FreeC
