/-! a2: frees of the class -/
section FreesD
variable {E : gj_E} {SI : gj_I} {SJ : gj_J} {F : Nat → Int}
theorem frs0 {Q : Int64 → gj_I → gj_J → Prop} (X : Prop) (s : Fr) (k w : Int) (hk : -1 ≤ k ∧ k < 2147483648) (hw : 0 ≤ w ∧ w ≤ 2) (hs : s.1 = 0) (h : Q (i6 (frsA s k w)) SI SJ) : (¬ i3 k = (i3 (-1)) → (i3 k < (i3 0) → X) ∧ (¬ i3 k < (i3 0) → Q (i6 (-9000000000000000000)) SI SJ)) ∧ (i3 k = (i3 (-1)) → (¬ i3 w = 0 → Q (i6 (-9000000000000000000)) SI SJ) ∧ (i3 w = 0 → Q (i3 0).toInt64 SI SJ)) := by
  unfold frsA at h
  rw [hs] at h
  rw [i3_eq (by omega) (by omega) (by omega) (by omega), i3_lt (by omega) (by omega) (by omega) (by omega), i3_eq0 (by omega) (by omega), i3_64 (by omega) (by omega)]
  refine ⟨fun c => ⟨fun d => by omega, fun d => ?_⟩, fun c => ⟨fun d => ?_, fun d => ?_⟩⟩
  · rw [if_neg c, if_neg (by omega)] at h; exact h
  · rw [if_pos c, if_neg d] at h; exact h
  · rw [if_pos c, if_pos d] at h; exact h
theorem sp_freesC {Q : Int64 → gj_I → gj_J → Prop} {a b : Int32} (hC : CNT F SI SJ) (hF : WF F) (k w : Int) (kr : -2147483648 ≤ k ∧ k < 2147483648) (wr : -2147483648 ≤ w ∧ w < 2147483648) (ha : a = i3 k) (hb : b = i3 w) (h : ∀ SI' SJ', FI LIfc SI SI' → FJ LJrl SJ SJ' → CNT F SI' SJ' → Q (i6 (freesA F k w)) SI' SJ') : DoL E 136 [(.ref 0), (.int a), (.int b)] SI SJ Q := by
  subst ha; subst hb
  have bad : ¬ (-1 ≤ k ∧ 0 ≤ w ∧ w ≤ 2) → Q (i6 (-9000000000000000000)) SI SJ := fun e => by
    have hh := h SI SJ FI.rf FJ.rf hC
    rw [show freesA F k w = -9000000000000000000 from if_neg e] at hh; exact hh
  obtain ⟨-, -, g3, g4⟩ := hC.2.1
  have rb := (rkF_I F).2
  refine st_136 _ _ SI SJ ?_
  rw [g4, g3, i3_lt (b := -1) (by omega) (by omega) (by omega) (by omega), i3_lt0 (by omega) (by omega), i3_le (by omega) (by omega) (by omega) (by omega)]
  refine ⟨fun c => bad (by omega), fun c => ⟨fun d => bad (by omega), fun d => ⟨fun e => ?_, fun e => bad (by omega)⟩⟩⟩
  have eA : freesA F k w = frsA (frsF F) k w := if_pos (by omega)
  rw [eA] at h
  refine ⟨fun f => ?_, fun f => ⟨fun g => ?_, fun g => sp_seekR hC hF rfl (fun A B f1 f2 k3 k4 => ?_)⟩⟩
  · rw [ibc_0, Classical.not_not] at f
    refine frs0 _ (frsF F) k w (by omega) (by omega) ?_ (h SI SJ FI.rf FJ.rf hC)
    unfold frsF
    split
    · exact frs_none f
    · rfl
  · rw [i3_eq (by omega) (by omega) (by omega) (by omega)] at g
    refine frs0 _ (frsF F) k w (by omega) (by omega) ?_ (h SI SJ FI.rf FJ.rf hC)
    unfold frsF
    rw [if_neg g]
  · rw [i3_eq (by omega) (by omega) (by omega) (by omega)] at g
    obtain ⟨⟨s0, s1⟩, s12⟩ := k3 g
    have hh := h A B f1 f2 (hC.r f1 f2)
    rw [show frsF F = frs (WW F) (nW F) from if_pos g] at hh
    generalize frs (WW F) (nW F) = s at *
    unfold frsA at hh
    rw [s0, i3_eq (by omega) (by omega) (by omega) (by omega), i3_lt (by omega) (by omega) (by omega) (by omega), i3_eq0 (by omega) (by omega), i3_eq (by omega) (by omega) (by omega) (by omega), i3_64 (by omega) (by omega)]
    refine ⟨fun c => ⟨fun d => ?_, fun d => ?_⟩, fun c => ⟨fun d => ?_, fun d => ?_⟩⟩
    · obtain ⟨m, hm⟩ : ∃ m : Nat, k = m := ⟨k.toNat, by omega⟩
      subst hm
      rw [if_neg c, if_pos d, show ((m : Nat) : Int).toNat = m by omega] at hh
      obtain ⟨x1, x2, x3⟩ := s1 m (by omega)
      rw [i3_n (by omega) (by omega), i3_in (by omega) (by omega), show ((m : Nat) : Int).toNat = m by omega, x1, x2, x3]
      refine ⟨fun y => ⟨fun z => ⟨by omega, ?_⟩, fun z => ⟨by omega, ?_⟩⟩, fun y => ⟨by omega, ?_⟩⟩
      · rw [if_neg y, if_neg z] at hh; exact hh
      · rw [if_neg y, if_pos z] at hh; exact hh
      · rw [if_pos y] at hh; exact hh
    · rw [if_neg c, if_neg d] at hh; exact hh
    · rw [if_pos c, if_neg d] at hh; exact hh
    · rw [if_pos c, if_pos d] at hh; exact hh
end FreesD
