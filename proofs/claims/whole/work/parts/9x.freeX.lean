/-! 9x: the release leaves the rest; what is not firm has a push that frees -/
section FreeX
variable {SI : gj_I} {SJ : gj_J} {F : Nat → Int} {W : Nat → V3} {n : Nat}
theorem CNT.r {A : gj_I} {B : gj_J} (h : CNT F SI SJ) (f : FI LIfc SI A) (g : FJ LJrl SJ B) : CNT F A B := by
  obtain ⟨h1, ⟨g1, g2, g3, g4⟩, h3⟩ := h
  refine ⟨h1.f f (fun o k h1 h2 => by unfold LIfc; omega), ⟨?_, ?_, ?_, ?_⟩, ?_⟩
  · exact LB42.f g1 f g (by unfold LIfc; exact ⟨by omega, fun k => by omega⟩) (fun k => by unfold LJrl LJfc LJcx; omega)
  · exact CB42.f g2 f g (fun k => by unfold LIfc; omega) (fun k => by unfold LJrl LJfc LJcx; omega)
  · rw [f 0 12 (by unfold LIfc; omega)]; exact g3
  · rw [f 0 13 (by unfold LIfc; omega)]; exact g4
  · unfold TR
    rw [f 65 4 (by unfold LIfc; omega), f 65 5 (by unfold LIfc; omega), f 65 6 (by unfold LIfc; omega), f 65 7 (by unfold LIfc; omega), f 65 8 (by unfold LIfc; omega), f 65 9 (by unfold LIfc; omega), g 79 0 (by unfold LJrl LJfc LJcx; omega), g 79 1 (by unfold LJrl LJfc LJcx; omega), g 80 0 (by unfold LJrl LJfc LJcx; omega), g 80 1 (by unfold LJrl LJfc LJcx; omega)]
    exact h3
theorem oth_ex {f : Nat → Option V3} {j0 : Nat} {v : V3} (hv : f j0 = some v) : ∀ (d i : Nat) (o : Option V3), i ≤ j0 → j0 < i + d → ∃ p, forN (fun j o => oth o (f j)) i d o = some p := by
  intro d
  induction d with
  | zero => intro i o h1 h2; omega
  | succ d ih =>
    intro i o h1 h2
    show ∃ p, forN (fun j o => oth o (f j)) (i + 1) d (oth o (f i)) = some p
    by_cases q : i = j0
    · subst q
      cases o with
      | none =>
        rw [hv]
        exact ⟨v, oth_stay _ _⟩
      | some x => exact ⟨x, oth_stay _ _⟩
    · exact ih (i + 1) _ (by omega) (by omega)
theorem fst_ex {i j : Nat} {v : V3} (hij : i < j) (hj : j < n) (hv : frP W n i j = some v) : ∃ p, frFst W n = some p := by
  have key : ∀ (d a : Nat) (o : Option V3), a ≤ i → i < a + d → ∃ p, forN (frI W n) a d o = some p := by
    intro d
    induction d with
    | zero => intro a o h1 h2; omega
    | succ d ih =>
      intro a o h1 h2
      show ∃ p, forN (frI W n) (a + 1) d (frI W n a o) = some p
      by_cases q : a = i
      · subst q
        obtain ⟨p, hp⟩ := oth_ex (f := frP W n a) hv (n - (a + 1)) (a + 1) o (by omega) (by omega)
        have e : frI W n a o = some p := hp
        rw [e]
        exact ⟨p, frI_stay _ _⟩
      · exact ih (a + 1) _ (by omega) (by omega)
  exact key n 0 none (by omega) (by omega)
theorem free_ex (hR : R3 W n (fullS n)) (hf : ¬ firm W n (fullS n)) : ∃ p, frFst W n = some p := by
  apply Classical.byContradiction
  intro q
  apply hf
  refine ⟨hR, fun i j hij hi hj hc => ?_⟩
  have no : frP W n i j = none := by
    cases e : frP W n i j with
    | none => rfl
    | some v => exact absurd (fst_ex hij hj.1 e) q
  refine ⟨?_, ?_⟩
  · apply Classical.byContradiction
    intro z
    have : abS W (crs (W i) (W j)) n = 0 := ab0.mpr (fun k hk => by
      apply Classical.byContradiction
      intro y
      exact z ⟨k, inS_f.mpr hk, by omega⟩)
    rw [frP_1 hc this] at no; cases no
  · apply Classical.byContradiction
    intro z
    have hb : beS W (crs (W i) (W j)) n = 0 := be0.mpr (fun k hk => by
      rw [dot_ng]
      apply Classical.byContradiction
      intro y
      exact z ⟨k, inS_f.mpr hk, by omega⟩)
    by_cases y : abS W (crs (W i) (W j)) n = 0
    · rw [frP_1 hc y] at no; cases no
    · rw [frP_2 hc y hb] at no; cases no
end FreeX
