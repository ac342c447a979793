/-! a7: weak of the class -/
section WeakC
variable {E : gj_E} {SI : gj_I} {SJ : gj_J} {F : Nat → Int}
theorem CNT.w {A : gj_I} {B : gj_J} (h : CNT F SI SJ) (f : FI LIsd52 SI A) (g : FJ LJsv52 SJ B) : CNT F A B := by
  obtain ⟨h1, ⟨g1, g2, g3, g4⟩, h3⟩ := h
  refine ⟨h1.f f (fun o k h1 h2 => by unfold LIsd52; omega), ⟨?_, ?_, ?_, ?_⟩, ?_⟩
  · exact LB42.f g1 f g (by unfold LIsd52; exact ⟨by omega, fun k => by omega⟩) (fun k => by unfold LJsv52 LJsd52; omega)
  · exact CB42.f g2 f g (fun k => by unfold LIsd52; omega) (fun k => by unfold LJsv52 LJsd52; omega)
  · rw [f 0 12 (by unfold LIsd52; omega)]; exact g3
  · rw [f 0 13 (by unfold LIsd52; omega)]; exact g4
  · unfold TR
    rw [f 65 4 (by unfold LIsd52; omega), f 65 5 (by unfold LIsd52; omega), f 65 6 (by unfold LIsd52; omega), f 65 7 (by unfold LIsd52; omega), f 65 8 (by unfold LIsd52; omega), f 65 9 (by unfold LIsd52; omega), g 79 0 (by unfold LJsv52 LJsd52; omega), g 79 1 (by unfold LJsv52 LJsd52; omega), g 80 0 (by unfold LJsv52 LJsd52; omega), g 80 1 (by unfold LJsv52 LJsd52; omega)]
    exact h3
theorem sp_weakC {Q : Int64 → gj_I → gj_J → Prop} {a : Int32} (hC : CNT F SI SJ) (hF : WF F) (w : Int) (wr : -2147483648 ≤ w ∧ w < 2147483648) (ha : a = i3 w) (h : ∀ SI' SJ', FI LCI SI SI' → FJ LCJ SJ SJ' → CNT F SI' SJ' → Q (i6 (weakA F w)) SI' SJ') : DoL E 137 [(.ref 0), (.int a)] SI SJ Q := by
  subst ha
  have bad : ¬ ((0 ≤ w ∧ w ≤ 6) ∧ firmF F) → Q (i6 (-9000000000000000000)) SI SJ := fun e => by
    have hh := h SI SJ FI.rf FJ.rf hC
    rw [show weakA F w = -9000000000000000000 from ic_f e] at hh; exact hh
  have hW := hF.1; have hT := hF.2.1; have hN := hF.2.2.1
  have nb : nW F ≤ 12 := nw_b hN
  have hB : Wb (WW F) (nW F) := Wl_b hW hT (hN.ok hW.1)
  obtain ⟨g1, g2, g3, g4⟩ := hC.2.1
  refine st_137 _ SI SJ ?_
  rw [g4, i3_lt0 (by omega) (by omega), i3_le (by omega) (by omega) (by omega) (by omega)]
  refine ⟨fun c => bad (fun z => (ibc_0.mp c) z.2), fun c => ⟨fun d => bad (fun z => (by omega)), fun d => ⟨fun e => ?_, fun e => bad (fun z => (by omega))⟩⟩⟩
  rw [ibc_0, Classical.not_not] at c
  have e0 : 0 < (sdA (WW F) (nW F)).1 := side_all _ _ c
  refine sp_survey52 g1 g2 (by omega) hB e0 (fun A B k1 k2 k3 k4 k5 k6 => ?_)
  have hh := h A B (k1.le (fun o k z => by unfold LIsd52 at z; unfold LCI; omega)) (k2.le (fun o k z => by unfold LJsv52 LJsd52 at z; unfold LCJ; omega)) (hC.w k1 k2)
  have eq : weakA F w = (if w = 0 then lox (sdF F).2.2.2 (sz3 (sdF F).2.2.1) else if w = 1 then loy (sdF F).2.2.2 (sz3 (sdF F).2.2.1) else if w = 2 then (sdF F).2.2.1.1 else if w = 3 then (sdF F).2.2.1.2.1 else if w = 4 then (sdF F).2.2.1.2.2 else if w = 5 then (sdF F).2.2.2 else ((sdF F).1 : Int)) := ic_t ⟨by omega, c⟩
  have few := k4.few hB
  rw [eq, show sdF F = sdA (WW F) (nW F) from rfl] at hh
  generalize sdA (WW F) (nW F) = s at *
  obtain ⟨t0, -, t⟩ := k3
  obtain ⟨t1, t2, t3, t4, -⟩ := t e0
  rw [k5, k6, t0, t1, t2, t3, t4, i3_eq (by omega) (by omega) (by omega) (by omega), i3_eq (by omega) (by omega) (by omega) (by omega), i3_eq (by omega) (by omega) (by omega) (by omega), i3_eq (by omega) (by omega) (by omega) (by omega), i3_eq (by omega) (by omega) (by omega) (by omega), i3_eq (by omega) (by omega) (by omega) (by omega), i3_t (by omega) (by omega), i3_64 (by omega) (by omega)]
  refine ⟨fun q => ?_, fun q => ?_, fun q => ?_, fun q => ?_, fun q => ?_, fun q => ?_, fun q => ?_⟩
  · rw [if_pos q] at hh; exact hh
  · rw [if_neg (by omega), if_pos q] at hh; exact hh
  · rw [if_neg (by omega), if_neg (by omega), if_pos q] at hh; exact hh
  · rw [if_neg (by omega), if_neg (by omega), if_neg (by omega), if_pos q] at hh; exact hh
  · rw [if_neg (by omega), if_neg (by omega), if_neg (by omega), if_neg (by omega), if_pos q] at hh; exact hh
  · rw [if_neg (by omega), if_neg (by omega), if_neg (by omega), if_neg (by omega), if_neg (by omega), if_pos q] at hh; exact hh
  · rw [if_neg (by omega), if_neg (by omega), if_neg (by omega), if_neg (by omega), if_neg (by omega), if_neg (by omega)] at hh; exact hh
end WeakC
