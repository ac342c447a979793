/-! a1: frees of the class -/
section FreesC
variable {E : gj_E} {SI : gj_I} {SJ : gj_J} {F : Nat → Int}
theorem firm_none {W : Nat → V3} {n : Nat} (h : firm W n (fullS n)) {i j : Nat} (hij : i < j) (hj : j < n) : frP W n i j = none := by
  by_cases z : crs (W i) (W j) = (0, 0, 0)
  · exact frP_z z
  · obtain ⟨⟨k, k1, k2⟩, l, l1, l2⟩ := h.2 i j hij (inS_f.mpr (by omega)) (inS_f.mpr hj) z
    refine frP_3 z (fun y => ?_) (fun y => ?_)
    · have := ab0.mp y k k1.1; omega
    · have := be0.mp y l l1.1
      rw [dot_ng] at this; omega
theorem frFst_none {W : Nat → V3} {n : Nat} (h : firm W n (fullS n)) : frFst W n = none := by
  have key := forN_I (f := frI W n) (P := fun _ o => o = none) n 0 none (fun i o h1 h2 hI => ?_) rfl
  · exact key
  · subst hI
    have k2 := forN_I (f := fun j o => oth o (frP W n i j)) (P := fun _ o => o = none) (n - (i + 1)) (i + 1) none (fun j o h3 h4 hI2 => ?_) rfl
    · exact k2
    · subst hI2
      exact firm_none h (by omega) (by omega)
theorem frs_none {W : Nat → V3} {n : Nat} (h : firm W n (fullS n)) : (frs W n).1 = 0 := by
  have key := forN_I (f := frsI W n) (P := fun _ s => s.1 = 0) n 0 (0, fun _ => (0, 0, 0)) (fun i s h1 h2 hI => ?_) rfl
  · exact key
  · have k2 := forN_I (f := fun j s => oins s (frP W n i j) insF) (P := fun _ s => s.1 = 0) (n - (i + 1)) (i + 1) s (fun j s h3 h4 hI2 => ?_) hI
    · exact k2
    · show (oins s (frP W n i j) insF).1 = 0
      rw [firm_none h (by omega) (by omega)]; exact hI2
theorem sp_freeC {Q : Int64 → gj_I → gj_J → Prop} {a : Int32} (hC : CNT F SI SJ) (hF : WF F) (w : Int) (wr : -2147483648 ≤ w ∧ w < 2147483648) (ha : a = i3 w) (h : ∀ SI' SJ', FI LIfc SI SI' → FJ LJrl SJ SJ' → CNT F SI' SJ' → Q (i6 (freeA F w)) SI' SJ') : DoL E 135 [(.ref 0), (.int a)] SI SJ Q := by
  subst ha
  have bad : freeA F w = -9000000000000000000 → Q (i6 (-9000000000000000000)) SI SJ := fun e => by
    have hh := h SI SJ FI.rf FJ.rf hC
    rw [e] at hh; exact hh
  obtain ⟨-, -, g3, g4⟩ := hC.2.1
  refine st_135 _ SI SJ ?_
  rw [g4, g3, i3_lt0 (by omega) (by omega), i3_le (by omega) (by omega) (by omega) (by omega), i3_eq0 (by omega) (by omega), i3_eq (by omega) (by omega) (by omega) (by omega)]
  refine ⟨fun c => ?_, fun c => ⟨fun d => bad (if_neg (by omega)), fun d => ⟨fun e => ?_, fun e => bad (if_neg (by omega))⟩⟩⟩
  · rw [ibc_0, Classical.not_not] at c
    refine bad ?_
    unfold freeA
    have r3 : rkF F = 3 := by
      rcases (rkF_I F).1 with ⟨z, -⟩ | ⟨z, -⟩
      · exact z
      · exact absurd c.1 z
    have fo : freeO F = none := by
      unfold freeO; rw [if_pos r3]; exact frFst_none c
    rw [fo]
    split <;> rfl
  · rw [ibc_0] at c
    refine sp_seekR hC hF rfl (fun A B f1 f2 k3 k4 => ?_)
    have hh := h A B f1 f2 (hC.r f1 f2)
    have ex : ∃ p, freeO F = some p := by
      unfold freeO
      by_cases q : rkF F = 3
      · rw [if_pos q]
        refine free_ex ?_ c
        rcases (rkF_I F).1 with ⟨-, z⟩ | ⟨-, ⟨z, -⟩ | ⟨-, ⟨z, -⟩ | ⟨z, -⟩⟩⟩
        · exact z
        · omega
        · omega
        · omega
      · rw [if_neg q]; exact ⟨_, rfl⟩
    obtain ⟨p, hp⟩ := ex
    obtain ⟨x1, x2, x3⟩ := k4 p hp
    have e0 : freeA F w = (if w = 0 then p.1 else if w = 1 then p.2.1 else p.2.2) := by
      unfold freeA; rw [if_pos (by omega), hp]
    rw [e0] at hh
    rw [x1, x2, x3]
    refine ⟨fun q => ⟨fun q2 => ?_, fun q2 => ?_⟩, fun q => ?_⟩
    · rw [if_neg q, if_neg q2] at hh; exact hh
    · rw [if_neg q, if_pos q2] at hh; exact hh
    · rw [if_pos q] at hh; exact hh
end FreesC
