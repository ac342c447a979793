/-! 40: isFirm, isFirmNow, wrenchesOf of the reference -/
section IsFirm
variable {E : gj_E} {SI : gj_I} {SJ : gj_J} {F : Nat → Int} {W : Nat → V3} {O : Nat → Int} {n : Nat}
theorem Pb.neg {p : V3} (h : Pb p) : Pb (neg3 p) := by
  obtain ⟨h1, h2, h3⟩ := h
  unfold Pb neg3; dsimp only; omega
theorem sp_isFirm {Q : Int32 → gj_I → gj_J → Prop} {a : Int32} (hL : LW W O n SI SJ) (hn : n ≤ 14) (hB : Wb W n) (s : Nat) (hs : s < 2147483648) (ha : a = i3 s) (h : ∀ SJ', FJ LPx SJ SJ' → Q (ibc (firm W n s)) SI SJ') : DoI E 194 [(.ref 81), (.int a)] SI SJ Q := by
  subst ha
  refine st_194 _ SI SJ (sp_rankOf hL hn hB s hs rfl (fun r B f1 hr hr2 => ?_))
  rw [i3_le (by omega) (by omega) (by omega) (by omega)]
  refine ⟨fun c => ?_, fun c => ?_⟩
  · have hR3 : R3 W n s := by
      rcases hr with ⟨-, z⟩ | ⟨-, ⟨z, -⟩ | ⟨-, ⟨z, -⟩ | ⟨z, -⟩⟩⟩
      · exact z
      · omega
      · omega
      · omega
    have l2 : ∀ (i : Nat), i < n → (∀ B, FJ LPx SJ B → (∀ a b, seenP (i + 1) 0 a b → a < b → inS s n a → inS s n b → crs (W a) (W b) ≠ (0, 0, 0) → (∃ k, inS s n k ∧ 0 < dot (crs (W a) (W b)) (W k)) ∧ ∃ k, inS s n k ∧ dot (crs (W a) (W b)) (W k) < 0) → GoI E mt_194 13 [some (.ref 81), some (.int (i3 s)), some (.int (i3 ((i + 1 : Nat) : Int))), none] SI B Q) →
        ∀ (d j : Nat) (B : gj_J), j + d = n → i < j → FJ LPx SJ B → (∀ a b, seenP i j a b → a < b → inS s n a → inS s n b → crs (W a) (W b) ≠ (0, 0, 0) → (∃ k, inS s n k ∧ 0 < dot (crs (W a) (W b)) (W k)) ∧ ∃ k, inS s n k ∧ dot (crs (W a) (W b)) (W k) < 0) → GoI E mt_194 25 [some (.ref 81), some (.int (i3 s)), some (.int (i3 i)), some (.int (i3 j))] SI B Q := by
      intro i hi cont d
      induction d with
      | zero =>
        intro j B hj hij f1 g
        refine lp_194_25 _ _ _ SI B ⟨fun _ => ?_, fun c => ?_⟩
        · rw [i3_add, show (i : Int) + 1 = ((i + 1 : Nat) : Int) by omega]
          refine cont B f1 (fun a b z h1 h2 h3 => g a b ?_ h1 h2 h3)
          have := h3.1
          unfold seenP at z ⊢; omega
        · rw [hL.1, i3_le (by omega) (by omega) (by omega) (by omega)] at c; omega
      | succ d ih =>
        intro j B hj hij f1 g
        have hL2 := hL.f f1
        have st : ∀ a b, seenP i (j + 1) a b → seenP i j a b ∨ (a = i ∧ b = j) := by
          intro a b z; unfold seenP at z ⊢; omega
        have nx : ∀ B', FJ LPx SJ B' → (inS s n i → inS s n j → crs (W i) (W j) ≠ (0, 0, 0) → (∃ k, inS s n k ∧ 0 < dot (crs (W i) (W j)) (W k)) ∧ ∃ k, inS s n k ∧ dot (crs (W i) (W j)) (W k) < 0) → GoI E mt_194 25 [some (.ref 81), some (.int (i3 s)), some (.int (i3 i)), some (.int (i3 ((j + 1 : Nat) : Int)))] SI B' Q := by
          intro B' f' g'
          refine ih (j + 1) B' (by omega) (by omega) f' (fun a b z h1 h2 h3 h4 => ?_)
          rcases st a b z with y | ⟨rfl, rfl⟩
          · exact g a b y h1 h2 h3 h4
          · exact g' h2 h3 h4
        refine lp_194_25 _ _ _ SI B ⟨fun c => ?_, fun c => ?_⟩
        · rw [hL.1, i3_le (by omega) (by omega) (by omega) (by omega)] at c; omega
        · rw [i3_add, show (j : Int) + 1 = ((j + 1 : Nat) : Int) by omega]
          refine sp_has hs (by omega) ?_
          rw [ib_0]
          refine ⟨fun q => ?_, fun q => ?_⟩
          · exact nx B f1 (fun z => absurd z.2 q)
          · rw [Decidable.not_not] at q
            have hiS : inS s n i := ⟨hi, q⟩
            refine sp_has hs (by omega) ?_
            rw [ib_0]
            refine ⟨fun q1 => ?_, fun q1 => ?_⟩
            · rw [Decidable.not_not] at q1
              have hjS : inS s n j := ⟨by omega, q1⟩
              refine sp_crosses hL2 (by omega) i j hi (by omega) rfl rfl (fun B2 f2 hP => ?_)
              have f3 := f1.tr f2
              have hL3 := hL.f f3
              have hb := crs_b hB hi (show j < n by omega)
              refine sp_isNothing hP hb ?_
              rw [ibc_0]
              refine ⟨fun q2 => ?_, fun q2 => ?_⟩
              · refine sp_makesNoMore hL3 hn hB hP hb s hs rfl ?_
                rw [ibc_0]
                refine ⟨fun q3 => ?_, fun q3 => ?_⟩
                · refine sp_turnsRow hP (fun B3 f4 hP2 => ?_)
                  have f5 := f3.tr f4
                  refine sp_makesNoMore (hL.f f5) hn hB hP2 hb.neg s hs rfl ?_
                  rw [ibc_0]
                  have e1 : (∀ k, inS s n k → dot (neg3 (crs (W i) (W j))) (W k) ≤ 0) ↔ (∀ k, inS s n k → 0 ≤ dot (crs (W i) (W j)) (W k)) := by
                    constructor
                    · intro z k hk; have := z k hk; rw [dot_neg] at this; omega
                    · intro z k hk; have := z k hk; rw [dot_neg]; omega
                  rw [e1]
                  refine ⟨fun q4 => ?_, fun q4 => ?_⟩
                  · refine nx B3 f5 (fun _ _ _ => ⟨?_, ?_⟩)
                    · refine Classical.byContradiction (fun z => q3 (fun k hk => ?_))
                      rcases Int.lt_or_le 0 (dot (crs (W i) (W j)) (W k)) with y | y
                      · exact absurd ⟨k, hk, y⟩ z
                      · exact y
                    · refine Classical.byContradiction (fun z => q4 (fun k hk => ?_))
                      rcases Int.lt_or_le (dot (crs (W i) (W j)) (W k)) 0 with y | y
                      · exact absurd ⟨k, hk, y⟩ z
                      · exact y
                  · rw [Classical.not_not] at q4
                    have hf : ¬ firm W n s := fun z => by
                      obtain ⟨k, hk, y⟩ := (z.2 i j hij hiS hjS q2).2
                      have := q4 k hk; omega
                    have := h B3 f5
                    rw [ibc_f hf] at this; exact this
                · rw [Classical.not_not] at q3
                  have hf : ¬ firm W n s := fun z => by
                    obtain ⟨k, hk, y⟩ := (z.2 i j hij hiS hjS q2).1
                    have := q3 k hk; omega
                  have := h B2 f3
                  rw [ibc_f hf] at this; exact this
              · rw [Classical.not_not] at q2
                exact nx B2 f3 (fun _ _ z => absurd q2 z)
            · exact nx B f1 (fun _ z => absurd z.2 q1)
    have l1 : ∀ (d i : Nat) (B : gj_J), i + d = n → FJ LPx SJ B → (∀ a b, seenP i 0 a b → a < b → inS s n a → inS s n b → crs (W a) (W b) ≠ (0, 0, 0) → (∃ k, inS s n k ∧ 0 < dot (crs (W a) (W b)) (W k)) ∧ ∃ k, inS s n k ∧ dot (crs (W a) (W b)) (W k) < 0) → GoI E mt_194 13 [some (.ref 81), some (.int (i3 s)), some (.int (i3 i)), none] SI B Q := by
      intro d
      induction d with
      | zero =>
        intro i B hi f1 g
        refine lp_194_13 _ _ SI B ⟨fun _ => ?_, fun c => ?_⟩
        · have hf : firm W n s := ⟨hR3, fun a b h1 h2 h3 h4 => g a b (by have := h2.1; unfold seenP; omega) h1 h2 h3 h4⟩
          have := h B f1
          rw [ibc_t hf] at this; exact this
        · rw [hL.1, i3_le (by omega) (by omega) (by omega) (by omega)] at c; omega
      | succ d ih =>
        intro i B hi f1 g
        refine lp_194_13 _ _ SI B ⟨fun c => ?_, fun c => ?_⟩
        · rw [hL.1, i3_le (by omega) (by omega) (by omega) (by omega)] at c; omega
        · rw [i3_add, show (i : Int) + 1 = ((i + 1 : Nat) : Int) by omega]
          refine l2 i (by omega) (fun B' f' g' => ih (i + 1) B' (by omega) f' g') (n - (i + 1)) (i + 1) B (by omega) (by omega) f1 (fun a b z h1 => g a b ?_ h1)
          unfold seenP at z ⊢; omega
    exact l1 n 0 B (by omega) f1 (fun a b z => by unfold seenP at z; omega)
  · have hf : ¬ firm W n s := fun z => by
      rcases hr with ⟨y, -⟩ | ⟨y, -⟩
      · omega
      · exact y z.1
    have := h B f1
    rw [ibc_f hf] at this; exact this
end IsFirm
