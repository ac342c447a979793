/-! 20.vcJX8: what the machine asks of each method, from its entry (st_) and from each loop head (lp_): printed by a program, checked by the kernel -/
set_option maxRecDepth 20000 in
/-- GraspJudge$Orders.read -/
theorem st_23 {E : gj_E} {Q : Int32 → gj_I → gj_J → Prop} (SI : gj_I) (SJ : gj_J) (h : GoI E mt_23 7 [some (.ref 37), some (.ref 1), some (.int (i3 0)), none] (gj_u2 SI 37 3 (i3 0)) SJ Q) : DoI E 23 [(.ref 37), (.ref 1)] SI SJ Q := by
  refine gj_start (M := mt_23) ok_23 (Nat.le_of_ble_eq_true rfl) ?_
  refine gj_goq gj_clT ok_23 [7, 19, 37, 48, 56, 68] ?_
  show gj_Goes E om0 mt_23 7 [some (.ref 37), some (.ref 1), some (.int (i3 0)), none] [] (gj_u2 SI 37 3 (i3 0)) SJ (QI Q)
  exact h
set_option maxRecDepth 20000 in
theorem lp_23_7 {E : gj_E} {Q : Int32 → gj_I → gj_J → Prop} (x2 : Int32) (SI : gj_I) (SJ : gj_J) (h : ((i3 12) ≤ x2 → DoI E 76 [(.ref 1), (.int (i3 4))] SI SJ (fun r1 SI2 SJ2 => Q r1 SI2 SJ2)) ∧ (¬ (i3 12) ≤ x2 → DoI E 24 [(.ref 37), (.ref 1), (.int x2)] SI SJ (fun r3 SI4 SJ4 => (0 ≤ r3 → DoI E 72 [(.ref 1)] (gj_u2 SI4 37 3 (x2 + (i3 1))) SJ4 (fun r5 SI6 SJ6 => (r5 = 0 → DoI E 75 [(.ref 1), (.int (i3 59))] SI6 SJ6 (fun r7 SI8 SJ8 => (¬ r7 = 0 → GoI E mt_23 7 [some (.ref 37), some (.ref 1), some (.int (x2 + (i3 1))), none] SI8 SJ8 Q) ∧ (r7 = 0 → DoI E 76 [(.ref 1), (.int (i3 1))] SI8 SJ8 (fun r9 SI10 SJ10 => Q r9 SI10 SJ10)))) ∧ (¬ r5 = 0 → Q (i3 0) SI6 SJ6))) ∧ (¬ 0 ≤ r3 → Q r3 SI4 SJ4)))) : GoI E mt_23 7 [some (.ref 37), some (.ref 1), some (.int x2), none] SI SJ Q := by
  refine gj_goq gj_clT ok_23 [7, 19, 37, 48, 56, 68] ?_
  show ((i3 12) ≤ x2 → gj_Goes E om0 mt_23 63 [some (.ref 37), some (.ref 1), some (.int x2), none] [] SI SJ (QI Q)) ∧ (¬ (i3 12) ≤ x2 → gj_Do E om0 (gj_mt 24) [(.ref 37), (.ref 1), (.int x2)] SI SJ _)
  refine ⟨fun c1 => ?_, fun c1 => ?_⟩
  · refine gj_goq gj_clT ok_23 [7, 19, 37, 48, 56, 68] ?_
    show gj_Do E om0 (gj_mt 76) [(.ref 1), (.int (i3 4))] SI SJ _
    refine gj_Do.mono (h.1 c1) (fun v_ SI2 SJ2 h_ => ?_)
    obtain ⟨r1, rfl, q2⟩ := h_
    show gj_Goes E om0 mt_23 68 [some (.ref 37), some (.ref 1), some (.int x2), none] [(.int r1)] SI2 SJ2 (QI Q)
    refine gj_goq gj_clT ok_23 [7, 19, 37, 48, 56, 68] ?_
    show QI Q (some (.int r1)) SI2 SJ2
    exact ⟨_, rfl, q2⟩
  · refine gj_Do.mono (h.2 c1) (fun v_ SI4 SJ4 h_ => ?_)
    obtain ⟨r3, rfl, q3⟩ := h_
    show gj_Goes E om0 mt_23 19 [some (.ref 37), some (.ref 1), some (.int x2), none] [(.int r3)] SI4 SJ4 (QI Q)
    refine gj_goq gj_clT ok_23 [7, 19, 37, 48, 56, 68] ?_
    show (0 ≤ r3 → gj_Goes E om0 mt_23 26 [some (.ref 37), some (.ref 1), some (.int x2), some (.int r3)] [] SI4 SJ4 (QI Q)) ∧ (¬ 0 ≤ r3 → QI Q (some (.int r3)) SI4 SJ4)
    refine ⟨fun c4 => ?_, fun c4 => ?_⟩
    · refine gj_goq gj_clT ok_23 [7, 19, 37, 48, 56, 68] ?_
      show gj_Do E om0 (gj_mt 72) [(.ref 1)] (gj_u2 SI4 37 3 (x2 + (i3 1))) SJ4 _
      refine gj_Do.mono (q3.1 c4) (fun v_ SI6 SJ6 h_ => ?_)
      obtain ⟨r5, rfl, q5⟩ := h_
      show gj_Goes E om0 mt_23 37 [some (.ref 37), some (.ref 1), some (.int x2), some (.int r3)] [(.int r5)] SI6 SJ6 (QI Q)
      refine gj_goq gj_clT ok_23 [7, 19, 37, 48, 56, 68] ?_
      show (r5 = 0 → gj_Goes E om0 mt_23 42 [some (.ref 37), some (.ref 1), some (.int x2), some (.int r3)] [] SI6 SJ6 (QI Q)) ∧ (¬ r5 = 0 → QI Q (some (.int (i3 0))) SI6 SJ6)
      refine ⟨fun c6 => ?_, fun c6 => ?_⟩
      · refine gj_goq gj_clT ok_23 [7, 19, 37, 48, 56, 68] ?_
        show gj_Do E om0 (gj_mt 75) [(.ref 1), (.int (i3 59))] SI6 SJ6 _
        refine gj_Do.mono (q5.1 c6) (fun v_ SI8 SJ8 h_ => ?_)
        obtain ⟨r7, rfl, q7⟩ := h_
        show gj_Goes E om0 mt_23 48 [some (.ref 37), some (.ref 1), some (.int x2), some (.int r3)] [(.int r7)] SI8 SJ8 (QI Q)
        refine gj_goq gj_clT ok_23 [7, 19, 37, 48, 56, 68] ?_
        show (¬ r7 = 0 → gj_Goes E om0 mt_23 57 [some (.ref 37), some (.ref 1), some (.int x2), some (.int r3)] [] SI8 SJ8 (QI Q)) ∧ (r7 = 0 → gj_Do E om0 (gj_mt 76) [(.ref 1), (.int (i3 1))] SI8 SJ8 _)
        refine ⟨fun c8 => ?_, fun c8 => ?_⟩
        · refine gj_goq gj_clT ok_23 [7, 19, 37, 48, 56, 68] ?_
          show gj_Goes E om0 mt_23 7 [some (.ref 37), some (.ref 1), some (.int (x2 + (i3 1))), some (.int r3)] [] SI8 SJ8 (QI Q)
          exact gj_fh (q7.1 c8) (And.intro (Or.inr rfl) (And.intro (Or.inr rfl) (And.intro (Or.inr rfl) (And.intro (Or.inl rfl) trivial))))
        · refine gj_Do.mono (q7.2 c8) (fun v_ SI10 SJ10 h_ => ?_)
          obtain ⟨r9, rfl, q9⟩ := h_
          show gj_Goes E om0 mt_23 56 [some (.ref 37), some (.ref 1), some (.int x2), some (.int r3)] [(.int r9)] SI10 SJ10 (QI Q)
          refine gj_goq gj_clT ok_23 [7, 19, 37, 48, 56, 68] ?_
          show QI Q (some (.int r9)) SI10 SJ10
          exact ⟨_, rfl, q9⟩
      · exact ⟨_, rfl, (q5.2 c6)⟩
    · exact ⟨_, rfl, (q3.2 c4)⟩
set_option maxRecDepth 20000 in
/-- GraspJudge$Orders.readClause -/
theorem st_24 {E : gj_E} {Q : Int32 → gj_I → gj_J → Prop} (a1 : Int32) (SI : gj_I) (SJ : gj_J) (h : DoI E 25 [(.ref 1)] SI SJ (fun r1 SI2 SJ2 => vp_in a1 12 ∧ ((0 ≤ ((gj_u2 SI2 38 (gj_n a1) r1) 38 (gj_n a1)) → DoI E 26 [(.ref 1)] (gj_u2 SI2 38 (gj_n a1) r1) SJ2 (fun r3 SI4 SJ4 => (0 ≤ ((gj_u2 SI4 39 (gj_n a1) r3) 39 (gj_n a1)) → (¬ (SI4 38 (gj_n a1)) = (i3 1) → DoI E 26 [(.ref 1)] (gj_u2 SI4 39 (gj_n a1) r3) SJ4 (fun r5 SI6 SJ6 => Q (if ((gj_u2 SI6 40 (gj_n a1) r5) 40 (gj_n a1)) < (i3 0) then ((gj_u2 SI6 40 (gj_n a1) r5) 40 (gj_n a1)) else (i3 0)) (gj_u2 SI6 40 (gj_n a1) r5) SJ6)) ∧ ((SI4 38 (gj_n a1)) = (i3 1) → Q (if ((gj_u2 (gj_u2 SI4 39 (gj_n a1) r3) 40 (gj_n a1) (i3 0)) 40 (gj_n a1)) < (i3 0) then ((gj_u2 (gj_u2 SI4 39 (gj_n a1) r3) 40 (gj_n a1) (i3 0)) 40 (gj_n a1)) else (i3 0)) (gj_u2 (gj_u2 SI4 39 (gj_n a1) r3) 40 (gj_n a1) (i3 0)) SJ4)) ∧ (¬ 0 ≤ ((gj_u2 SI4 39 (gj_n a1) r3) 39 (gj_n a1)) → Q ((gj_u2 SI4 39 (gj_n a1) r3) 39 (gj_n a1)) (gj_u2 SI4 39 (gj_n a1) r3) SJ4))) ∧ (¬ 0 ≤ ((gj_u2 SI2 38 (gj_n a1) r1) 38 (gj_n a1)) → DoI E 76 [(.ref 1), (.int (i3 1))] (gj_u2 SI2 38 (gj_n a1) r1) SJ2 (fun r7 SI8 SJ8 => Q r7 SI8 SJ8))))) : DoI E 24 [(.ref 37), (.ref 1), (.int a1)] SI SJ Q := by
  refine gj_start (M := mt_24) ok_24 (Nat.le_of_ble_eq_true rfl) ?_
  refine gj_goq gj_clT ok_24 [9, 24, 34, 74] ?_
  show gj_Do E om0 (gj_mt 25) [(.ref 1)] SI SJ _
  refine gj_Do.mono h (fun v_ SI2 SJ2 h_ => ?_)
  obtain ⟨r1, rfl, q1⟩ := h_
  show gj_Goes E om0 mt_24 9 [some (.ref 37), some (.ref 1), some (.int a1)] [(.int r1), (.int a1), (.ref 38)] SI2 SJ2 (QI Q)
  refine gj_goq gj_clT ok_24 [9, 24, 34, 74] ?_
  show vp_in a1 12 ∧ (vp_in a1 12 ∧ ((0 ≤ ((gj_u2 SI2 38 (gj_n a1) r1) 38 (gj_n a1)) → gj_Goes E om0 mt_24 25 [some (.ref 37), some (.ref 1), some (.int a1)] [] (gj_u2 SI2 38 (gj_n a1) r1) SJ2 (QI Q)) ∧ (¬ 0 ≤ ((gj_u2 SI2 38 (gj_n a1) r1) 38 (gj_n a1)) → gj_Do E om0 (gj_mt 76) [(.ref 1), (.int (i3 1))] (gj_u2 SI2 38 (gj_n a1) r1) SJ2 _)))
  have k2 := q1.1
  refine ⟨k2, ?_⟩
  refine ⟨k2, ?_⟩
  refine ⟨fun c3 => ?_, fun c3 => ?_⟩
  · refine gj_goq gj_clT ok_24 [9, 24, 34, 74] ?_
    show gj_Do E om0 (gj_mt 26) [(.ref 1)] (gj_u2 SI2 38 (gj_n a1) r1) SJ2 _
    refine gj_Do.mono (q1.2.1 c3) (fun v_ SI4 SJ4 h_ => ?_)
    obtain ⟨r3, rfl, q4⟩ := h_
    show gj_Goes E om0 mt_24 34 [some (.ref 37), some (.ref 1), some (.int a1)] [(.int r3), (.int a1), (.ref 39)] SI4 SJ4 (QI Q)
    refine gj_goq gj_clT ok_24 [9, 24, 34, 74] ?_
    show vp_in a1 12 ∧ (vp_in a1 12 ∧ ((0 ≤ ((gj_u2 SI4 39 (gj_n a1) r3) 39 (gj_n a1)) → gj_Goes E om0 mt_24 51 [some (.ref 37), some (.ref 1), some (.int a1)] [] (gj_u2 SI4 39 (gj_n a1) r3) SJ4 (QI Q)) ∧ (¬ 0 ≤ ((gj_u2 SI4 39 (gj_n a1) r3) 39 (gj_n a1)) → vp_in a1 12 ∧ (QI Q (some (.int ((gj_u2 SI4 39 (gj_n a1) r3) 39 (gj_n a1)))) (gj_u2 SI4 39 (gj_n a1) r3) SJ4))))
    refine ⟨k2, ?_⟩
    refine ⟨k2, ?_⟩
    refine ⟨fun c5 => ?_, fun c5 => ?_⟩
    · refine gj_goq gj_clT ok_24 [9, 24, 34, 74] ?_
      show vp_in a1 12 ∧ ((¬ (SI4 38 (gj_n a1)) = (i3 1) → gj_Goes E om0 mt_24 70 [some (.ref 37), some (.ref 1), some (.int a1)] [(.int a1), (.ref 40)] (gj_u2 SI4 39 (gj_n a1) r3) SJ4 (QI Q)) ∧ ((SI4 38 (gj_n a1)) = (i3 1) → gj_Goes E om0 mt_24 74 [some (.ref 37), some (.ref 1), some (.int a1)] [(.int (i3 0)), (.int a1), (.ref 40)] (gj_u2 SI4 39 (gj_n a1) r3) SJ4 (QI Q)))
      refine ⟨k2, ?_⟩
      refine ⟨fun c6 => ?_, fun c6 => ?_⟩
      · refine gj_goq gj_clT ok_24 [9, 24, 34, 74] ?_
        show gj_Do E om0 (gj_mt 26) [(.ref 1)] (gj_u2 SI4 39 (gj_n a1) r3) SJ4 _
        refine gj_Do.mono ((q4.1 c5).1 c6) (fun v_ SI6 SJ6 h_ => ?_)
        obtain ⟨r5, rfl, q7⟩ := h_
        show gj_Goes E om0 mt_24 74 [some (.ref 37), some (.ref 1), some (.int a1)] [(.int r5), (.int a1), (.ref 40)] SI6 SJ6 (QI Q)
        refine gj_goq gj_clT ok_24 [9, 24, 34, 74] ?_
        show vp_in a1 12 ∧ (vp_in a1 12 ∧ (QI Q (some (.int (if ((gj_u2 SI6 40 (gj_n a1) r5) 40 (gj_n a1)) < (i3 0) then ((gj_u2 SI6 40 (gj_n a1) r5) 40 (gj_n a1)) else (i3 0)))) (gj_u2 SI6 40 (gj_n a1) r5) SJ6))
        refine ⟨k2, ?_⟩
        refine ⟨k2, ?_⟩
        exact ⟨_, rfl, q7⟩
      · refine gj_goq gj_clT ok_24 [9, 24, 34, 74] ?_
        show vp_in a1 12 ∧ (vp_in a1 12 ∧ (QI Q (some (.int (if ((gj_u2 (gj_u2 SI4 39 (gj_n a1) r3) 40 (gj_n a1) (i3 0)) 40 (gj_n a1)) < (i3 0) then ((gj_u2 (gj_u2 SI4 39 (gj_n a1) r3) 40 (gj_n a1) (i3 0)) 40 (gj_n a1)) else (i3 0)))) (gj_u2 (gj_u2 SI4 39 (gj_n a1) r3) 40 (gj_n a1) (i3 0)) SJ4))
        refine ⟨k2, ?_⟩
        refine ⟨k2, ?_⟩
        exact ⟨_, rfl, ((q4.1 c5).2 c6)⟩
    · refine ⟨k2, ?_⟩
      exact ⟨_, rfl, (q4.2 c5)⟩
  · refine gj_Do.mono (q1.2.2 c3) (fun v_ SI8 SJ8 h_ => ?_)
    obtain ⟨r7, rfl, q8⟩ := h_
    show gj_Goes E om0 mt_24 24 [some (.ref 37), some (.ref 1), some (.int a1)] [(.int r7)] SI8 SJ8 (QI Q)
    refine gj_goq gj_clT ok_24 [9, 24, 34, 74] ?_
    show QI Q (some (.int r7)) SI8 SJ8
    exact ⟨_, rfl, q8⟩
set_option maxRecDepth 20000 in
/-- GraspJudge$Orders.readWord -/
theorem st_25 {E : gj_E} {Q : Int32 → gj_I → gj_J → Prop} (SI : gj_I) (SJ : gj_J) (h : DoI E 79 [(.ref 1), (.ref 132)] SI SJ (fun r1 SI2 SJ2 => (r1 = 0 → DoI E 79 [(.ref 1), (.ref 133)] SI2 SJ2 (fun r3 SI4 SJ4 => (r3 = 0 → DoI E 79 [(.ref 1), (.ref 134)] SI4 SJ4 (fun r5 SI6 SJ6 => (r5 = 0 → DoI E 79 [(.ref 1), (.ref 135)] SI6 SJ6 (fun r7 SI8 SJ8 => (r7 = 0 → Q (i3 (-1)) SI8 SJ8) ∧ (¬ r7 = 0 → Q (i3 3) SI8 SJ8))) ∧ (¬ r5 = 0 → Q (i3 2) SI6 SJ6))) ∧ (¬ r3 = 0 → Q (i3 1) SI4 SJ4))) ∧ (¬ r1 = 0 → Q (i3 0) SI2 SJ2))) : DoI E 25 [(.ref 1)] SI SJ Q := by
  refine gj_start (M := mt_25) ok_25 (Nat.le_of_ble_eq_true rfl) ?_
  refine gj_goq gj_clT ok_25 [6, 17, 28, 39] ?_
  show gj_Do E om0 (gj_mt 79) [(.ref 1), (.ref 132)] SI SJ _
  refine gj_Do.mono h (fun v_ SI2 SJ2 h_ => ?_)
  obtain ⟨r1, rfl, q1⟩ := h_
  show gj_Goes E om0 mt_25 6 [some (.ref 1)] [(.int r1)] SI2 SJ2 (QI Q)
  refine gj_goq gj_clT ok_25 [6, 17, 28, 39] ?_
  show (r1 = 0 → gj_Goes E om0 mt_25 11 [some (.ref 1)] [] SI2 SJ2 (QI Q)) ∧ (¬ r1 = 0 → QI Q (some (.int (i3 0))) SI2 SJ2)
  refine ⟨fun c2 => ?_, fun c2 => ?_⟩
  · refine gj_goq gj_clT ok_25 [6, 17, 28, 39] ?_
    show gj_Do E om0 (gj_mt 79) [(.ref 1), (.ref 133)] SI2 SJ2 _
    refine gj_Do.mono (q1.1 c2) (fun v_ SI4 SJ4 h_ => ?_)
    obtain ⟨r3, rfl, q3⟩ := h_
    show gj_Goes E om0 mt_25 17 [some (.ref 1)] [(.int r3)] SI4 SJ4 (QI Q)
    refine gj_goq gj_clT ok_25 [6, 17, 28, 39] ?_
    show (r3 = 0 → gj_Goes E om0 mt_25 22 [some (.ref 1)] [] SI4 SJ4 (QI Q)) ∧ (¬ r3 = 0 → QI Q (some (.int (i3 1))) SI4 SJ4)
    refine ⟨fun c4 => ?_, fun c4 => ?_⟩
    · refine gj_goq gj_clT ok_25 [6, 17, 28, 39] ?_
      show gj_Do E om0 (gj_mt 79) [(.ref 1), (.ref 134)] SI4 SJ4 _
      refine gj_Do.mono (q3.1 c4) (fun v_ SI6 SJ6 h_ => ?_)
      obtain ⟨r5, rfl, q5⟩ := h_
      show gj_Goes E om0 mt_25 28 [some (.ref 1)] [(.int r5)] SI6 SJ6 (QI Q)
      refine gj_goq gj_clT ok_25 [6, 17, 28, 39] ?_
      show (r5 = 0 → gj_Goes E om0 mt_25 33 [some (.ref 1)] [] SI6 SJ6 (QI Q)) ∧ (¬ r5 = 0 → QI Q (some (.int (i3 2))) SI6 SJ6)
      refine ⟨fun c6 => ?_, fun c6 => ?_⟩
      · refine gj_goq gj_clT ok_25 [6, 17, 28, 39] ?_
        show gj_Do E om0 (gj_mt 79) [(.ref 1), (.ref 135)] SI6 SJ6 _
        refine gj_Do.mono (q5.1 c6) (fun v_ SI8 SJ8 h_ => ?_)
        obtain ⟨r7, rfl, q7⟩ := h_
        show gj_Goes E om0 mt_25 39 [some (.ref 1)] [(.int r7)] SI8 SJ8 (QI Q)
        refine gj_goq gj_clT ok_25 [6, 17, 28, 39] ?_
        show (r7 = 0 → gj_Goes E om0 mt_25 46 [some (.ref 1)] [] SI8 SJ8 (QI Q)) ∧ (¬ r7 = 0 → gj_Goes E om0 mt_25 47 [some (.ref 1)] [(.int (i3 3))] SI8 SJ8 (QI Q))
        refine ⟨fun c8 => ?_, fun c8 => ?_⟩
        · refine gj_goq gj_clT ok_25 [6, 17, 28, 39] ?_
          show QI Q (some (.int (i3 (-1)))) SI8 SJ8
          exact ⟨_, rfl, (q7.1 c8)⟩
        · refine gj_goq gj_clT ok_25 [6, 17, 28, 39] ?_
          show QI Q (some (.int (i3 3))) SI8 SJ8
          exact ⟨_, rfl, (q7.2 c8)⟩
      · exact ⟨_, rfl, (q5.2 c6)⟩
    · exact ⟨_, rfl, (q3.2 c4)⟩
  · exact ⟨_, rfl, (q1.2 c2)⟩
set_option maxRecDepth 20000 in
/-- GraspJudge$Orders.readNumber -/
theorem st_26 {E : gj_E} {Q : Int32 → gj_I → gj_J → Prop} (SI : gj_I) (SJ : gj_J) (h : DoI E 75 [(.ref 1), (.int (i3 32))] SI SJ (fun r1 SI2 SJ2 => (r1 = 0 → DoI E 76 [(.ref 1), (.int (i3 1))] SI2 SJ2 (fun r3 SI4 SJ4 => Q r3 SI4 SJ4)) ∧ (¬ r1 = 0 → DoI E 77 [(.ref 1), (.int (i3 2))] SI2 SJ2 (fun r5 SI6 SJ6 => Q r5 SI6 SJ6)))) : DoI E 26 [(.ref 1)] SI SJ Q := by
  refine gj_start (M := mt_26) ok_26 (Nat.le_of_ble_eq_true rfl) ?_
  refine gj_goq gj_clT ok_26 [6, 14, 22] ?_
  show gj_Do E om0 (gj_mt 75) [(.ref 1), (.int (i3 32))] SI SJ _
  refine gj_Do.mono h (fun v_ SI2 SJ2 h_ => ?_)
  obtain ⟨r1, rfl, q1⟩ := h_
  show gj_Goes E om0 mt_26 6 [some (.ref 1)] [(.int r1)] SI2 SJ2 (QI Q)
  refine gj_goq gj_clT ok_26 [6, 14, 22] ?_
  show (r1 = 0 → gj_Goes E om0 mt_26 17 [some (.ref 1)] [] SI2 SJ2 (QI Q)) ∧ (¬ r1 = 0 → gj_Do E om0 (gj_mt 77) [(.ref 1), (.int (i3 2))] SI2 SJ2 _)
  refine ⟨fun c2 => ?_, fun c2 => ?_⟩
  · refine gj_goq gj_clT ok_26 [6, 14, 22] ?_
    show gj_Do E om0 (gj_mt 76) [(.ref 1), (.int (i3 1))] SI2 SJ2 _
    refine gj_Do.mono (q1.1 c2) (fun v_ SI4 SJ4 h_ => ?_)
    obtain ⟨r3, rfl, q3⟩ := h_
    show gj_Goes E om0 mt_26 22 [some (.ref 1)] [(.int r3)] SI4 SJ4 (QI Q)
    refine gj_goq gj_clT ok_26 [6, 14, 22] ?_
    show QI Q (some (.int r3)) SI4 SJ4
    exact ⟨_, rfl, q3⟩
  · refine gj_Do.mono (q1.2 c2) (fun v_ SI6 SJ6 h_ => ?_)
    obtain ⟨r5, rfl, q4⟩ := h_
    show gj_Goes E om0 mt_26 14 [some (.ref 1)] [(.int r5)] SI6 SJ6 (QI Q)
    refine gj_goq gj_clT ok_26 [6, 14, 22] ?_
    show gj_Goes E om0 mt_26 22 [some (.ref 1)] [(.int r5)] SI6 SJ6 (QI Q)
    refine gj_goq gj_clT ok_26 [6, 14, 22] ?_
    show QI Q (some (.int r5)) SI6 SJ6
    exact ⟨_, rfl, q4⟩
set_option maxRecDepth 20000 in
/-- GraspJudge$Tape.append -/
theorem st_68 {E : gj_E} {Q : gj_I → gj_J → Prop} (a1 : Int32) (SI : gj_I) (SJ : gj_J) (h : GoV E mt_68 3 [some (.ref 1), some (.int a1), some (.int (i3 24))] SI SJ Q) : DoV E 68 [(.ref 1), (.int a1)] SI SJ Q := by
  refine gj_start (M := mt_68) ok_68 (Nat.le_of_ble_eq_true rfl) ?_
  refine gj_goq gj_clT ok_68 [3] ?_
  show gj_Goes E om0 mt_68 3 [some (.ref 1), some (.int a1), some (.int (i3 24))] [] SI SJ (QV Q)
  exact h
set_option maxRecDepth 20000 in
theorem lp_68_3 {E : gj_E} {Q : gj_I → gj_J → Prop} (x1 : Int32) (x2 : Int32) (SI : gj_I) (SJ : gj_J) (h : (x2 < 0 → Q SI SJ) ∧ (¬ x2 < 0 → ((i3 240) ≤ (SI 1 1) → Q SI SJ) ∧ (¬ (i3 240) ≤ (SI 1 1) → vp_in (SI 1 1) 240 ∧ (GoV E mt_68 3 [some (.ref 1), some (.int x1), some (.int (x2 + (i3 (-8))))] (gj_u2 (gj_u2 SI 2 (gj_n (SI 1 1)) ((x1 >>> (x2 &&& 31)) &&& (i3 255))) 1 1 ((SI 1 1) + (i3 1))) SJ Q)))) : GoV E mt_68 3 [some (.ref 1), some (.int x1), some (.int x2)] SI SJ Q := by
  refine gj_goq gj_clT ok_68 [3] ?_
  show (x2 < 0 → gj_Goes E om0 mt_68 51 [some (.ref 1), some (.int x1), some (.int x2)] [] SI SJ (QV Q)) ∧ (¬ x2 < 0 → ((i3 240) ≤ (SI 1 1) → gj_Goes E om0 mt_68 51 [some (.ref 1), some (.int x1), some (.int x2)] [] SI SJ (QV Q)) ∧ (¬ (i3 240) ≤ (SI 1 1) → vp_in (SI 1 1) 240 ∧ (gj_Goes E om0 mt_68 3 [some (.ref 1), some (.int x1), some (.int (x2 + (i3 (-8))))] [] (gj_u2 (gj_u2 SI 2 (gj_n (SI 1 1)) ((x1 >>> (x2 &&& 31)) &&& (i3 255))) 1 1 ((SI 1 1) + (i3 1))) SJ (QV Q))))
  refine ⟨fun c1 => ?_, fun c1 => ?_⟩
  · refine gj_goq gj_clT ok_68 [3] ?_
    show QV Q none SI SJ
    exact ⟨rfl, (h.1 c1)⟩
  · refine ⟨fun c2 => ?_, fun c2 => ?_⟩
    · refine gj_goq gj_clT ok_68 [3] ?_
      show QV Q none SI SJ
      exact ⟨rfl, ((h.2 c1).1 c2)⟩
    · have k3 := ((h.2 c1).2 c2).1
      refine ⟨k3, ?_⟩
      exact ((h.2 c1).2 c2).2
set_option maxRecDepth 20000 in
/-- GraspJudge$Tape.offers -/
theorem st_69 {E : gj_E} {Q : Int32 → gj_I → gj_J → Prop} (a1 : Int32) (a2 : Int32) (a3 : Int32) (SI : gj_I) (SJ : gj_J) (h : (a1 < a2 → Q (i3 0) SI SJ) ∧ (¬ a1 < a2 → (a3 < a1 → Q (i3 0) SI SJ) ∧ (¬ a3 < a1 → ((SI 1 1) < a1 → Q (i3 0) SI SJ) ∧ (¬ (SI 1 1) < a1 → Q (i3 1) SI SJ)))) : DoI E 69 [(.ref 1), (.int a1), (.int a2), (.int a3)] SI SJ Q := by
  refine gj_start (M := mt_69) ok_69 (Nat.le_of_ble_eq_true rfl) ?_
  refine gj_goq gj_clT ok_69 [] ?_
  show (a1 < a2 → gj_Goes E om0 mt_69 22 [some (.ref 1), some (.int a1), some (.int a2), some (.int a3)] [] SI SJ (QI Q)) ∧ (¬ a1 < a2 → (a3 < a1 → gj_Goes E om0 mt_69 22 [some (.ref 1), some (.int a1), some (.int a2), some (.int a3)] [] SI SJ (QI Q)) ∧ (¬ a3 < a1 → ((SI 1 1) < a1 → gj_Goes E om0 mt_69 22 [some (.ref 1), some (.int a1), some (.int a2), some (.int a3)] [] SI SJ (QI Q)) ∧ (¬ (SI 1 1) < a1 → gj_Goes E om0 mt_69 23 [some (.ref 1), some (.int a1), some (.int a2), some (.int a3)] [(.int (i3 1))] SI SJ (QI Q))))
  refine ⟨fun c1 => ?_, fun c1 => ?_⟩
  · refine gj_goq gj_clT ok_69 [] ?_
    show ((i3 0) = 0 ∨ (i3 0) = 1) ∧ (QI Q (some (.int (i3 0))) SI SJ)
    refine ⟨(Or.inl rfl), ?_⟩
    exact ⟨_, rfl, (h.1 c1)⟩
  · refine ⟨fun c2 => ?_, fun c2 => ?_⟩
    · refine gj_goq gj_clT ok_69 [] ?_
      show ((i3 0) = 0 ∨ (i3 0) = 1) ∧ (QI Q (some (.int (i3 0))) SI SJ)
      refine ⟨(Or.inl rfl), ?_⟩
      exact ⟨_, rfl, ((h.2 c1).1 c2)⟩
    · refine ⟨fun c3 => ?_, fun c3 => ?_⟩
      · refine gj_goq gj_clT ok_69 [] ?_
        show ((i3 0) = 0 ∨ (i3 0) = 1) ∧ (QI Q (some (.int (i3 0))) SI SJ)
        refine ⟨(Or.inl rfl), ?_⟩
        exact ⟨_, rfl, (((h.2 c1).2 c2).1 c3)⟩
      · refine gj_goq gj_clT ok_69 [] ?_
        show ((i3 1) = 0 ∨ (i3 1) = 1) ∧ (QI Q (some (.int (i3 1))) SI SJ)
        refine ⟨(Or.inr rfl), ?_⟩
        exact ⟨_, rfl, (((h.2 c1).2 c2).2 c3)⟩
set_option maxRecDepth 20000 in
/-- GraspJudge$Tape.open -/
theorem st_70 {E : gj_E} {Q : gj_I → gj_J → Prop} (a1 : Int32) (SI : gj_I) (SJ : gj_J) (h : Q (gj_u2 (gj_u2 SI 1 2 (i3 0)) 1 3 (if (SI 1 1) < a1 then (SI 1 1) else a1)) SJ) : DoV E 70 [(.ref 1), (.int a1)] SI SJ Q := by
  refine gj_start (M := mt_70) ok_70 (Nat.le_of_ble_eq_true rfl) ?_
  refine gj_goq gj_clT ok_70 [] ?_
  show QV Q none (gj_u2 (gj_u2 SI 1 2 (i3 0)) 1 3 (if (SI 1 1) < a1 then (SI 1 1) else a1)) SJ
  exact ⟨rfl, h⟩
set_option maxRecDepth 20000 in
/-- GraspJudge$Tape.wipe -/
theorem st_71 {E : gj_E} {Q : gj_I → gj_J → Prop} (SI : gj_I) (SJ : gj_J) (h : Q (gj_u2 (gj_u2 (gj_u2 SI 1 1 (i3 0)) 1 2 (i3 0)) 1 3 (i3 0)) SJ) : DoV E 71 [(.ref 1)] SI SJ Q := by
  refine gj_start (M := mt_71) ok_71 (Nat.le_of_ble_eq_true rfl) ?_
  refine gj_goq gj_clT ok_71 [] ?_
  show QV Q none (gj_u2 (gj_u2 (gj_u2 SI 1 1 (i3 0)) 1 2 (i3 0)) 1 3 (i3 0)) SJ
  exact ⟨rfl, h⟩
set_option maxRecDepth 20000 in
/-- GraspJudge$Tape.ended -/
theorem st_72 {E : gj_E} {Q : Int32 → gj_I → gj_J → Prop} (SI : gj_I) (SJ : gj_J) (h : ((SI 1 2) < (SI 1 3) → Q (i3 0) SI SJ) ∧ (¬ (SI 1 2) < (SI 1 3) → Q (i3 1) SI SJ)) : DoI E 72 [(.ref 1)] SI SJ Q := by
  refine gj_start (M := mt_72) ok_72 (Nat.le_of_ble_eq_true rfl) ?_
  refine gj_goq gj_clT ok_72 [] ?_
  show ((SI 1 2) < (SI 1 3) → gj_Goes E om0 mt_72 15 [some (.ref 1)] [] SI SJ (QI Q)) ∧ (¬ (SI 1 2) < (SI 1 3) → gj_Goes E om0 mt_72 16 [some (.ref 1)] [(.int (i3 1))] SI SJ (QI Q))
  refine ⟨fun c1 => ?_, fun c1 => ?_⟩
  · refine gj_goq gj_clT ok_72 [] ?_
    show ((i3 0) = 0 ∨ (i3 0) = 1) ∧ (QI Q (some (.int (i3 0))) SI SJ)
    refine ⟨(Or.inl rfl), ?_⟩
    exact ⟨_, rfl, (h.1 c1)⟩
  · refine gj_goq gj_clT ok_72 [] ?_
    show ((i3 1) = 0 ∨ (i3 1) = 1) ∧ (QI Q (some (.int (i3 1))) SI SJ)
    refine ⟨(Or.inr rfl), ?_⟩
    exact ⟨_, rfl, (h.2 c1)⟩
set_option maxRecDepth 20000 in
/-- GraspJudge$Tape.sign -/
theorem st_73 {E : gj_E} {Q : Int32 → gj_I → gj_J → Prop} (a1 : Int32) (SI : gj_I) (SJ : gj_J) (h : (a1 < 0 → Q (i3 (-1)) SI SJ) ∧ (¬ a1 < 0 → ((SI 1 3) ≤ a1 → Q (i3 (-1)) SI SJ) ∧ (¬ (SI 1 3) ≤ a1 → ((i3 240) ≤ a1 → Q (i3 (-1)) SI SJ) ∧ (¬ (i3 240) ≤ a1 → vp_in a1 240 ∧ (Q (SI 2 (gj_n a1)) SI SJ))))) : DoI E 73 [(.ref 1), (.int a1)] SI SJ Q := by
  refine gj_start (M := mt_73) ok_73 (Nat.le_of_ble_eq_true rfl) ?_
  refine gj_goq gj_clT ok_73 [] ?_
  show (a1 < 0 → gj_Goes E om0 mt_73 30 [some (.ref 1), some (.int a1)] [] SI SJ (QI Q)) ∧ (¬ a1 < 0 → ((SI 1 3) ≤ a1 → gj_Goes E om0 mt_73 30 [some (.ref 1), some (.int a1)] [] SI SJ (QI Q)) ∧ (¬ (SI 1 3) ≤ a1 → ((i3 240) ≤ a1 → gj_Goes E om0 mt_73 30 [some (.ref 1), some (.int a1)] [] SI SJ (QI Q)) ∧ (¬ (i3 240) ≤ a1 → vp_in a1 240 ∧ (gj_Goes E om0 mt_73 31 [some (.ref 1), some (.int a1)] [(.int (SI 2 (gj_n a1)))] SI SJ (QI Q)))))
  refine ⟨fun c1 => ?_, fun c1 => ?_⟩
  · refine gj_goq gj_clT ok_73 [] ?_
    show QI Q (some (.int (i3 (-1)))) SI SJ
    exact ⟨_, rfl, (h.1 c1)⟩
  · refine ⟨fun c2 => ?_, fun c2 => ?_⟩
    · refine gj_goq gj_clT ok_73 [] ?_
      show QI Q (some (.int (i3 (-1)))) SI SJ
      exact ⟨_, rfl, ((h.2 c1).1 c2)⟩
    · refine ⟨fun c3 => ?_, fun c3 => ?_⟩
      · refine gj_goq gj_clT ok_73 [] ?_
        show QI Q (some (.int (i3 (-1)))) SI SJ
        exact ⟨_, rfl, (((h.2 c1).2 c2).1 c3)⟩
      · have k4 := (((h.2 c1).2 c2).2 c3).1
        refine ⟨k4, ?_⟩
        refine gj_goq gj_clT ok_73 [] ?_
        show QI Q (some (.int (SI 2 (gj_n a1)))) SI SJ
        exact ⟨_, rfl, (((h.2 c1).2 c2).2 c3).2⟩
set_option maxRecDepth 20000 in
/-- GraspJudge$Tape.isDigit -/
theorem st_74 {E : gj_E} {Q : Int32 → gj_I → gj_J → Prop} (SI : gj_I) (SJ : gj_J) (h : DoI E 73 [(.ref 1), (.int (SI 1 2))] SI SJ (fun r1 SI2 SJ2 => (r1 < (i3 48) → Q (i3 0) SI2 SJ2) ∧ (¬ r1 < (i3 48) → ((i3 57) < r1 → Q (i3 0) SI2 SJ2) ∧ (¬ (i3 57) < r1 → Q (i3 1) SI2 SJ2)))) : DoI E 74 [(.ref 1)] SI SJ Q := by
  refine gj_start (M := mt_74) ok_74 (Nat.le_of_ble_eq_true rfl) ?_
  refine gj_goq gj_clT ok_74 [8] ?_
  show gj_Do E om0 (gj_mt 73) [(.ref 1), (.int (SI 1 2))] SI SJ _
  refine gj_Do.mono h (fun v_ SI2 SJ2 h_ => ?_)
  obtain ⟨r1, rfl, q1⟩ := h_
  show gj_Goes E om0 mt_74 8 [some (.ref 1), none] [(.int r1)] SI2 SJ2 (QI Q)
  refine gj_goq gj_clT ok_74 [8] ?_
  show (r1 < (i3 48) → gj_Goes E om0 mt_74 25 [some (.ref 1), some (.int r1)] [] SI2 SJ2 (QI Q)) ∧ (¬ r1 < (i3 48) → ((i3 57) < r1 → gj_Goes E om0 mt_74 25 [some (.ref 1), some (.int r1)] [] SI2 SJ2 (QI Q)) ∧ (¬ (i3 57) < r1 → gj_Goes E om0 mt_74 26 [some (.ref 1), some (.int r1)] [(.int (i3 1))] SI2 SJ2 (QI Q)))
  refine ⟨fun c2 => ?_, fun c2 => ?_⟩
  · refine gj_goq gj_clT ok_74 [8] ?_
    show ((i3 0) = 0 ∨ (i3 0) = 1) ∧ (QI Q (some (.int (i3 0))) SI2 SJ2)
    refine ⟨(Or.inl rfl), ?_⟩
    exact ⟨_, rfl, (q1.1 c2)⟩
  · refine ⟨fun c3 => ?_, fun c3 => ?_⟩
    · refine gj_goq gj_clT ok_74 [8] ?_
      show ((i3 0) = 0 ∨ (i3 0) = 1) ∧ (QI Q (some (.int (i3 0))) SI2 SJ2)
      refine ⟨(Or.inl rfl), ?_⟩
      exact ⟨_, rfl, ((q1.2 c2).1 c3)⟩
    · refine gj_goq gj_clT ok_74 [8] ?_
      show ((i3 1) = 0 ∨ (i3 1) = 1) ∧ (QI Q (some (.int (i3 1))) SI2 SJ2)
      refine ⟨(Or.inr rfl), ?_⟩
      exact ⟨_, rfl, ((q1.2 c2).2 c3)⟩
set_option maxRecDepth 20000 in
/-- GraspJudge$Tape.accept -/
theorem st_75 {E : gj_E} {Q : Int32 → gj_I → gj_J → Prop} (a1 : Int32) (SI : gj_I) (SJ : gj_J) (h : DoI E 73 [(.ref 1), (.int (SI 1 2))] SI SJ (fun r1 SI2 SJ2 => (r1 = a1 → Q (i3 1) (gj_u2 SI2 1 2 ((SI2 1 2) + (i3 1))) SJ2) ∧ (¬ r1 = a1 → Q (i3 0) SI2 SJ2))) : DoI E 75 [(.ref 1), (.int a1)] SI SJ Q := by
  refine gj_start (M := mt_75) ok_75 (Nat.le_of_ble_eq_true rfl) ?_
  refine gj_goq gj_clT ok_75 [8] ?_
  show gj_Do E om0 (gj_mt 73) [(.ref 1), (.int (SI 1 2))] SI SJ _
  refine gj_Do.mono h (fun v_ SI2 SJ2 h_ => ?_)
  obtain ⟨r1, rfl, q1⟩ := h_
  show gj_Goes E om0 mt_75 8 [some (.ref 1), some (.int a1)] [(.int r1)] SI2 SJ2 (QI Q)
  refine gj_goq gj_clT ok_75 [8] ?_
  show (r1 = a1 → gj_Goes E om0 mt_75 14 [some (.ref 1), some (.int a1)] [] SI2 SJ2 (QI Q)) ∧ (¬ r1 = a1 → ((i3 0) = 0 ∨ (i3 0) = 1) ∧ (QI Q (some (.int (i3 0))) SI2 SJ2))
  refine ⟨fun c2 => ?_, fun c2 => ?_⟩
  · refine gj_goq gj_clT ok_75 [8] ?_
    show ((i3 1) = 0 ∨ (i3 1) = 1) ∧ (QI Q (some (.int (i3 1))) (gj_u2 SI2 1 2 ((SI2 1 2) + (i3 1))) SJ2)
    refine ⟨(Or.inr rfl), ?_⟩
    exact ⟨_, rfl, (q1.1 c2)⟩
  · refine ⟨(Or.inl rfl), ?_⟩
    exact ⟨_, rfl, (q1.2 c2)⟩
set_option maxRecDepth 20000 in
/-- GraspJudge$Tape.fault -/
theorem st_76 {E : gj_E} {Q : Int32 → gj_I → gj_J → Prop} (a1 : Int32) (SI : gj_I) (SJ : gj_J) (h : Q (((i3 (-1000)) * a1) - (SI 1 2)) SI SJ) : DoI E 76 [(.ref 1), (.int a1)] SI SJ Q := by
  refine gj_start (M := mt_76) ok_76 (Nat.le_of_ble_eq_true rfl) ?_
  refine gj_goq gj_clT ok_76 [] ?_
  show QI Q (some (.int (((i3 (-1000)) * a1) - (SI 1 2)))) SI SJ
  exact ⟨_, rfl, h⟩
set_option maxRecDepth 20000 in
/-- GraspJudge$Tape.number -/
theorem st_77 {E : gj_E} {Q : Int32 → gj_I → gj_J → Prop} (a1 : Int32) (SI : gj_I) (SJ : gj_J) (h : DoI E 74 [(.ref 1)] SI SJ (fun r1 SI2 SJ2 => (¬ r1 = 0 → GoI E mt_77 17 [some (.ref 1), some (.int a1), some (.int (i3 0)), some (.int (i3 0))] SI2 SJ2 Q) ∧ (r1 = 0 → DoI E 76 [(.ref 1), (.int (i3 1))] SI2 SJ2 (fun r3 SI4 SJ4 => Q r3 SI4 SJ4)))) : DoI E 77 [(.ref 1), (.int a1)] SI SJ Q := by
  refine gj_start (M := mt_77) ok_77 (Nat.le_of_ble_eq_true rfl) ?_
  refine gj_goq gj_clT ok_77 [4, 12, 17, 26, 41, 66, 74] ?_
  show gj_Do E om0 (gj_mt 74) [(.ref 1)] SI SJ _
  refine gj_Do.mono h (fun v_ SI2 SJ2 h_ => ?_)
  obtain ⟨r1, rfl, q1⟩ := h_
  show gj_Goes E om0 mt_77 4 [some (.ref 1), some (.int a1), none, none] [(.int r1)] SI2 SJ2 (QI Q)
  refine gj_goq gj_clT ok_77 [4, 12, 17, 26, 41, 66, 74] ?_
  show (¬ r1 = 0 → gj_Goes E om0 mt_77 13 [some (.ref 1), some (.int a1), none, none] [] SI2 SJ2 (QI Q)) ∧ (r1 = 0 → gj_Do E om0 (gj_mt 76) [(.ref 1), (.int (i3 1))] SI2 SJ2 _)
  refine ⟨fun c2 => ?_, fun c2 => ?_⟩
  · refine gj_goq gj_clT ok_77 [4, 12, 17, 26, 41, 66, 74] ?_
    show gj_Goes E om0 mt_77 17 [some (.ref 1), some (.int a1), some (.int (i3 0)), some (.int (i3 0))] [] SI2 SJ2 (QI Q)
    exact (q1.1 c2)
  · refine gj_Do.mono (q1.2 c2) (fun v_ SI4 SJ4 h_ => ?_)
    obtain ⟨r3, rfl, q3⟩ := h_
    show gj_Goes E om0 mt_77 12 [some (.ref 1), some (.int a1), none, none] [(.int r3)] SI4 SJ4 (QI Q)
    refine gj_goq gj_clT ok_77 [4, 12, 17, 26, 41, 66, 74] ?_
    show QI Q (some (.int r3)) SI4 SJ4
    exact ⟨_, rfl, q3⟩
set_option maxRecDepth 20000 in
theorem lp_77_17 {E : gj_E} {Q : Int32 → gj_I → gj_J → Prop} (x1 : Int32) (x2 : Int32) (x3 : Int32) (SI : gj_I) (SJ : gj_J) (h : (x1 ≤ x3 → DoI E 74 [(.ref 1)] SI SJ (fun r1 SI2 SJ2 => (r1 = 0 → Q x2 SI2 SJ2) ∧ (¬ r1 = 0 → DoI E 76 [(.ref 1), (.int (i3 2))] SI2 SJ2 (fun r3 SI4 SJ4 => Q r3 SI4 SJ4)))) ∧ (¬ x1 ≤ x3 → DoI E 74 [(.ref 1)] SI SJ (fun r5 SI6 SJ6 => (r5 = 0 → DoI E 74 [(.ref 1)] SI6 SJ6 (fun r7 SI8 SJ8 => (r7 = 0 → Q x2 SI8 SJ8) ∧ (¬ r7 = 0 → DoI E 76 [(.ref 1), (.int (i3 2))] SI8 SJ8 (fun r9 SI10 SJ10 => Q r9 SI10 SJ10)))) ∧ (¬ r5 = 0 → DoI E 73 [(.ref 1), (.int (SI6 1 2))] SI6 SJ6 (fun r11 SI12 SJ12 => GoI E mt_77 17 [some (.ref 1), some (.int x1), some (.int ((((i3 10) * x2) + r11) - (i3 48))), some (.int (x3 + (i3 1)))] (gj_u2 SI12 1 2 ((SI12 1 2) + (i3 1))) SJ12 Q))))) : GoI E mt_77 17 [some (.ref 1), some (.int x1), some (.int x2), some (.int x3)] SI SJ Q := by
  refine gj_goq gj_clT ok_77 [4, 12, 17, 26, 41, 66, 74] ?_
  show (x1 ≤ x3 → gj_Goes E om0 mt_77 62 [some (.ref 1), some (.int x1), some (.int x2), some (.int x3)] [] SI SJ (QI Q)) ∧ (¬ x1 ≤ x3 → gj_Do E om0 (gj_mt 74) [(.ref 1)] SI SJ _)
  refine ⟨fun c1 => ?_, fun c1 => ?_⟩
  · refine gj_goq gj_clT ok_77 [4, 12, 17, 26, 41, 66, 74] ?_
    show gj_Do E om0 (gj_mt 74) [(.ref 1)] SI SJ _
    refine gj_Do.mono (h.1 c1) (fun v_ SI2 SJ2 h_ => ?_)
    obtain ⟨r1, rfl, q2⟩ := h_
    show gj_Goes E om0 mt_77 66 [some (.ref 1), some (.int x1), some (.int x2), some (.int x3)] [(.int r1)] SI2 SJ2 (QI Q)
    refine gj_goq gj_clT ok_77 [4, 12, 17, 26, 41, 66, 74] ?_
    show (r1 = 0 → gj_Goes E om0 mt_77 77 [some (.ref 1), some (.int x1), some (.int x2), some (.int x3)] [] SI2 SJ2 (QI Q)) ∧ (¬ r1 = 0 → gj_Do E om0 (gj_mt 76) [(.ref 1), (.int (i3 2))] SI2 SJ2 _)
    refine ⟨fun c3 => ?_, fun c3 => ?_⟩
    · refine gj_goq gj_clT ok_77 [4, 12, 17, 26, 41, 66, 74] ?_
      show QI Q (some (.int x2)) SI2 SJ2
      exact ⟨_, rfl, (q2.1 c3)⟩
    · refine gj_Do.mono (q2.2 c3) (fun v_ SI4 SJ4 h_ => ?_)
      obtain ⟨r3, rfl, q4⟩ := h_
      show gj_Goes E om0 mt_77 74 [some (.ref 1), some (.int x1), some (.int x2), some (.int x3)] [(.int r3)] SI4 SJ4 (QI Q)
      refine gj_goq gj_clT ok_77 [4, 12, 17, 26, 41, 66, 74] ?_
      show gj_Goes E om0 mt_77 78 [some (.ref 1), some (.int x1), some (.int x2), some (.int x3)] [(.int r3)] SI4 SJ4 (QI Q)
      refine gj_goq gj_clT ok_77 [4, 12, 17, 26, 41, 66, 74] ?_
      show QI Q (some (.int r3)) SI4 SJ4
      exact ⟨_, rfl, q4⟩
  · refine gj_Do.mono (h.2 c1) (fun v_ SI6 SJ6 h_ => ?_)
    obtain ⟨r5, rfl, q5⟩ := h_
    show gj_Goes E om0 mt_77 26 [some (.ref 1), some (.int x1), some (.int x2), some (.int x3)] [(.int r5)] SI6 SJ6 (QI Q)
    refine gj_goq gj_clT ok_77 [4, 12, 17, 26, 41, 66, 74] ?_
    show (r5 = 0 → gj_Goes E om0 mt_77 62 [some (.ref 1), some (.int x1), some (.int x2), some (.int x3)] [] SI6 SJ6 (QI Q)) ∧ (¬ r5 = 0 → gj_Do E om0 (gj_mt 73) [(.ref 1), (.int (SI6 1 2))] SI6 SJ6 _)
    refine ⟨fun c6 => ?_, fun c6 => ?_⟩
    · refine gj_goq gj_clT ok_77 [4, 12, 17, 26, 41, 66, 74] ?_
      show gj_Do E om0 (gj_mt 74) [(.ref 1)] SI6 SJ6 _
      refine gj_Do.mono (q5.1 c6) (fun v_ SI8 SJ8 h_ => ?_)
      obtain ⟨r7, rfl, q7⟩ := h_
      show gj_Goes E om0 mt_77 66 [some (.ref 1), some (.int x1), some (.int x2), some (.int x3)] [(.int r7)] SI8 SJ8 (QI Q)
      refine gj_goq gj_clT ok_77 [4, 12, 17, 26, 41, 66, 74] ?_
      show (r7 = 0 → gj_Goes E om0 mt_77 77 [some (.ref 1), some (.int x1), some (.int x2), some (.int x3)] [] SI8 SJ8 (QI Q)) ∧ (¬ r7 = 0 → gj_Do E om0 (gj_mt 76) [(.ref 1), (.int (i3 2))] SI8 SJ8 _)
      refine ⟨fun c8 => ?_, fun c8 => ?_⟩
      · refine gj_goq gj_clT ok_77 [4, 12, 17, 26, 41, 66, 74] ?_
        show QI Q (some (.int x2)) SI8 SJ8
        exact ⟨_, rfl, (q7.1 c8)⟩
      · refine gj_Do.mono (q7.2 c8) (fun v_ SI10 SJ10 h_ => ?_)
        obtain ⟨r9, rfl, q9⟩ := h_
        show gj_Goes E om0 mt_77 74 [some (.ref 1), some (.int x1), some (.int x2), some (.int x3)] [(.int r9)] SI10 SJ10 (QI Q)
        refine gj_goq gj_clT ok_77 [4, 12, 17, 26, 41, 66, 74] ?_
        show gj_Goes E om0 mt_77 78 [some (.ref 1), some (.int x1), some (.int x2), some (.int x3)] [(.int r9)] SI10 SJ10 (QI Q)
        refine gj_goq gj_clT ok_77 [4, 12, 17, 26, 41, 66, 74] ?_
        show QI Q (some (.int r9)) SI10 SJ10
        exact ⟨_, rfl, q9⟩
    · refine gj_Do.mono (q5.2 c6) (fun v_ SI12 SJ12 h_ => ?_)
      obtain ⟨r11, rfl, q10⟩ := h_
      show gj_Goes E om0 mt_77 41 [some (.ref 1), some (.int x1), some (.int x2), some (.int x3)] [(.int r11), (.int ((i3 10) * x2))] SI12 SJ12 (QI Q)
      refine gj_goq gj_clT ok_77 [4, 12, 17, 26, 41, 66, 74] ?_
      show gj_Goes E om0 mt_77 17 [some (.ref 1), some (.int x1), some (.int ((((i3 10) * x2) + r11) - (i3 48))), some (.int (x3 + (i3 1)))] [] (gj_u2 SI12 1 2 ((SI12 1 2) + (i3 1))) SJ12 (QI Q)
      exact q10
set_option maxRecDepth 20000 in
/-- GraspJudge$Tape.wordLength -/
theorem st_78 {E : gj_E} {Q : Int32 → gj_I → gj_J → Prop} (SI : gj_I) (SJ : gj_J) (h : GoI E mt_78 2 [some (.ref 1), some (.int (i3 0))] SI SJ Q) : DoI E 78 [(.ref 1)] SI SJ Q := by
  refine gj_start (M := mt_78) ok_78 (Nat.le_of_ble_eq_true rfl) ?_
  refine gj_goq gj_clT ok_78 [2, 18, 33] ?_
  show gj_Goes E om0 mt_78 2 [some (.ref 1), some (.int (i3 0))] [] SI SJ (QI Q)
  exact h
set_option maxRecDepth 20000 in
theorem lp_78_2 {E : gj_E} {Q : Int32 → gj_I → gj_J → Prop} (x1 : Int32) (SI : gj_I) (SJ : gj_J) (h : ((i3 120) ≤ x1 → Q x1 SI SJ) ∧ (¬ (i3 120) ≤ x1 → DoI E 73 [(.ref 1), (.int ((SI 1 2) + x1))] SI SJ (fun r1 SI2 SJ2 => (r1 < (i3 97) → Q x1 SI2 SJ2) ∧ (¬ r1 < (i3 97) → DoI E 73 [(.ref 1), (.int ((SI2 1 2) + x1))] SI2 SJ2 (fun r3 SI4 SJ4 => ((i3 122) < r3 → Q x1 SI4 SJ4) ∧ (¬ (i3 122) < r3 → GoI E mt_78 2 [some (.ref 1), some (.int (x1 + (i3 1)))] SI4 SJ4 Q)))))) : GoI E mt_78 2 [some (.ref 1), some (.int x1)] SI SJ Q := by
  refine gj_goq gj_clT ok_78 [2, 18, 33] ?_
  show ((i3 120) ≤ x1 → gj_Goes E om0 mt_78 44 [some (.ref 1), some (.int x1)] [] SI SJ (QI Q)) ∧ (¬ (i3 120) ≤ x1 → gj_Do E om0 (gj_mt 73) [(.ref 1), (.int ((SI 1 2) + x1))] SI SJ _)
  refine ⟨fun c1 => ?_, fun c1 => ?_⟩
  · refine gj_goq gj_clT ok_78 [2, 18, 33] ?_
    show QI Q (some (.int x1)) SI SJ
    exact ⟨_, rfl, (h.1 c1)⟩
  · refine gj_Do.mono (h.2 c1) (fun v_ SI2 SJ2 h_ => ?_)
    obtain ⟨r1, rfl, q2⟩ := h_
    show gj_Goes E om0 mt_78 18 [some (.ref 1), some (.int x1)] [(.int r1)] SI2 SJ2 (QI Q)
    refine gj_goq gj_clT ok_78 [2, 18, 33] ?_
    show (r1 < (i3 97) → gj_Goes E om0 mt_78 44 [some (.ref 1), some (.int x1)] [] SI2 SJ2 (QI Q)) ∧ (¬ r1 < (i3 97) → gj_Do E om0 (gj_mt 73) [(.ref 1), (.int ((SI2 1 2) + x1))] SI2 SJ2 _)
    refine ⟨fun c3 => ?_, fun c3 => ?_⟩
    · refine gj_goq gj_clT ok_78 [2, 18, 33] ?_
      show QI Q (some (.int x1)) SI2 SJ2
      exact ⟨_, rfl, (q2.1 c3)⟩
    · refine gj_Do.mono (q2.2 c3) (fun v_ SI4 SJ4 h_ => ?_)
      obtain ⟨r3, rfl, q4⟩ := h_
      show gj_Goes E om0 mt_78 33 [some (.ref 1), some (.int x1)] [(.int r3)] SI4 SJ4 (QI Q)
      refine gj_goq gj_clT ok_78 [2, 18, 33] ?_
      show ((i3 122) < r3 → gj_Goes E om0 mt_78 44 [some (.ref 1), some (.int x1)] [] SI4 SJ4 (QI Q)) ∧ (¬ (i3 122) < r3 → gj_Goes E om0 mt_78 2 [some (.ref 1), some (.int (x1 + (i3 1)))] [] SI4 SJ4 (QI Q))
      refine ⟨fun c5 => ?_, fun c5 => ?_⟩
      · refine gj_goq gj_clT ok_78 [2, 18, 33] ?_
        show QI Q (some (.int x1)) SI4 SJ4
        exact ⟨_, rfl, (q4.1 c5)⟩
      · exact (q4.2 c5)
set_option maxRecDepth 20000 in
/-- GraspJudge$Tape.acceptWord -/
theorem st_79_1_132 {E : gj_E} {Q : Int32 → gj_I → gj_J → Prop} (SI : gj_I) (SJ : gj_J) (h : DoI E 78 [(.ref 1)] SI SJ (fun r1 SI2 SJ2 => DoI E 288 [(.ref 132)] SI2 SJ2 (fun r3 SI4 SJ4 => (r1 = r3 → GoI E mt_79 15 [some (.ref 1), some (.ref 132), some (.int (i3 0))] SI4 SJ4 Q) ∧ (¬ r1 = r3 → Q (i3 0) SI4 SJ4)))) : DoI E 79 [(.ref 1), (.ref 132)] SI SJ Q := by
  refine gj_start (M := mt_79) ok_79 (Nat.le_of_ble_eq_true rfl) ?_
  refine gj_goq gj_clT ok_79 [4, 8, 15, 20, 33, 38, 58] ?_
  show gj_Do E om0 (gj_mt 78) [(.ref 1)] SI SJ _
  refine gj_Do.mono h (fun v_ SI2 SJ2 h_ => ?_)
  obtain ⟨r1, rfl, q1⟩ := h_
  show gj_Goes E om0 mt_79 4 [some (.ref 1), some (.ref 132), none] [(.int r1)] SI2 SJ2 (QI Q)
  refine gj_goq gj_clT ok_79 [4, 8, 15, 20, 33, 38, 58] ?_
  show gj_Do E om0 (gj_mt 288) [(.ref 132)] SI2 SJ2 _
  refine gj_Do.mono q1 (fun v_ SI4 SJ4 h_ => ?_)
  obtain ⟨r3, rfl, q2⟩ := h_
  show gj_Goes E om0 mt_79 8 [some (.ref 1), some (.ref 132), none] [(.int r3), (.int r1)] SI4 SJ4 (QI Q)
  refine gj_goq gj_clT ok_79 [4, 8, 15, 20, 33, 38, 58] ?_
  show (r1 = r3 → gj_Goes E om0 mt_79 13 [some (.ref 1), some (.ref 132), none] [] SI4 SJ4 (QI Q)) ∧ (¬ r1 = r3 → ((i3 0) = 0 ∨ (i3 0) = 1) ∧ (QI Q (some (.int (i3 0))) SI4 SJ4))
  refine ⟨fun c3 => ?_, fun c3 => ?_⟩
  · refine gj_goq gj_clT ok_79 [4, 8, 15, 20, 33, 38, 58] ?_
    show gj_Goes E om0 mt_79 15 [some (.ref 1), some (.ref 132), some (.int (i3 0))] [] SI4 SJ4 (QI Q)
    exact (q2.1 c3)
  · refine ⟨(Or.inl rfl), ?_⟩
    exact ⟨_, rfl, (q2.2 c3)⟩
set_option maxRecDepth 20000 in
theorem lp_79_15_1_132 {E : gj_E} {Q : Int32 → gj_I → gj_J → Prop} (x2 : Int32) (SI : gj_I) (SJ : gj_J) (h : DoI E 288 [(.ref 132)] SI SJ (fun r1 SI2 SJ2 => (r1 ≤ x2 → DoI E 288 [(.ref 132)] SI2 SJ2 (fun r3 SI4 SJ4 => Q (i3 1) (gj_u2 SI4 1 2 ((SI2 1 2) + r3)) SJ4)) ∧ (¬ r1 ≤ x2 → DoI E 73 [(.ref 1), (.int ((SI2 1 2) + x2))] SI2 SJ2 (fun r5 SI6 SJ6 => DoI E 289 [(.ref 132), (.int x2)] SI6 SJ6 (fun r7 SI8 SJ8 => (r5 = r7 → GoI E mt_79 15 [some (.ref 1), some (.ref 132), some (.int (x2 + (i3 1)))] SI8 SJ8 Q) ∧ (¬ r5 = r7 → Q (i3 0) SI8 SJ8)))))) : GoI E mt_79 15 [some (.ref 1), some (.ref 132), some (.int x2)] SI SJ Q := by
  refine gj_goq gj_clT ok_79 [4, 8, 15, 20, 33, 38, 58] ?_
  show gj_Do E om0 (gj_mt 288) [(.ref 132)] SI SJ _
  refine gj_Do.mono h (fun v_ SI2 SJ2 h_ => ?_)
  obtain ⟨r1, rfl, q1⟩ := h_
  show gj_Goes E om0 mt_79 20 [some (.ref 1), some (.ref 132), some (.int x2)] [(.int r1), (.int x2)] SI2 SJ2 (QI Q)
  refine gj_goq gj_clT ok_79 [4, 8, 15, 20, 33, 38, 58] ?_
  show (r1 ≤ x2 → gj_Goes E om0 mt_79 49 [some (.ref 1), some (.ref 132), some (.int x2)] [] SI2 SJ2 (QI Q)) ∧ (¬ r1 ≤ x2 → gj_Do E om0 (gj_mt 73) [(.ref 1), (.int ((SI2 1 2) + x2))] SI2 SJ2 _)
  refine ⟨fun c2 => ?_, fun c2 => ?_⟩
  · refine gj_goq gj_clT ok_79 [4, 8, 15, 20, 33, 38, 58] ?_
    show gj_Do E om0 (gj_mt 288) [(.ref 132)] SI2 SJ2 _
    refine gj_Do.mono (q1.1 c2) (fun v_ SI4 SJ4 h_ => ?_)
    obtain ⟨r3, rfl, q3⟩ := h_
    show gj_Goes E om0 mt_79 58 [some (.ref 1), some (.ref 132), some (.int x2)] [(.int r3), (.int (SI2 1 2)), (.ref 1)] SI4 SJ4 (QI Q)
    refine gj_goq gj_clT ok_79 [4, 8, 15, 20, 33, 38, 58] ?_
    show ((i3 1) = 0 ∨ (i3 1) = 1) ∧ (QI Q (some (.int (i3 1))) (gj_u2 SI4 1 2 ((SI2 1 2) + r3)) SJ4)
    refine ⟨(Or.inr rfl), ?_⟩
    exact ⟨_, rfl, q3⟩
  · refine gj_Do.mono (q1.2 c2) (fun v_ SI6 SJ6 h_ => ?_)
    obtain ⟨r5, rfl, q4⟩ := h_
    show gj_Goes E om0 mt_79 33 [some (.ref 1), some (.ref 132), some (.int x2)] [(.int r5)] SI6 SJ6 (QI Q)
    refine gj_goq gj_clT ok_79 [4, 8, 15, 20, 33, 38, 58] ?_
    show gj_Do E om0 (gj_mt 289) [(.ref 132), (.int x2)] SI6 SJ6 _
    refine gj_Do.mono q4 (fun v_ SI8 SJ8 h_ => ?_)
    obtain ⟨r7, rfl, q5⟩ := h_
    show gj_Goes E om0 mt_79 38 [some (.ref 1), some (.ref 132), some (.int x2)] [(.int r7), (.int r5)] SI8 SJ8 (QI Q)
    refine gj_goq gj_clT ok_79 [4, 8, 15, 20, 33, 38, 58] ?_
    show (r5 = r7 → gj_Goes E om0 mt_79 43 [some (.ref 1), some (.ref 132), some (.int x2)] [] SI8 SJ8 (QI Q)) ∧ (¬ r5 = r7 → ((i3 0) = 0 ∨ (i3 0) = 1) ∧ (QI Q (some (.int (i3 0))) SI8 SJ8))
    refine ⟨fun c6 => ?_, fun c6 => ?_⟩
    · refine gj_goq gj_clT ok_79 [4, 8, 15, 20, 33, 38, 58] ?_
      show gj_Goes E om0 mt_79 15 [some (.ref 1), some (.ref 132), some (.int (x2 + (i3 1)))] [] SI8 SJ8 (QI Q)
      exact (q5.1 c6)
    · refine ⟨(Or.inl rfl), ?_⟩
      exact ⟨_, rfl, (q5.2 c6)⟩
set_option maxRecDepth 20000 in
theorem st_79_1_133 {E : gj_E} {Q : Int32 → gj_I → gj_J → Prop} (SI : gj_I) (SJ : gj_J) (h : DoI E 78 [(.ref 1)] SI SJ (fun r1 SI2 SJ2 => DoI E 288 [(.ref 133)] SI2 SJ2 (fun r3 SI4 SJ4 => (r1 = r3 → GoI E mt_79 15 [some (.ref 1), some (.ref 133), some (.int (i3 0))] SI4 SJ4 Q) ∧ (¬ r1 = r3 → Q (i3 0) SI4 SJ4)))) : DoI E 79 [(.ref 1), (.ref 133)] SI SJ Q := by
  refine gj_start (M := mt_79) ok_79 (Nat.le_of_ble_eq_true rfl) ?_
  refine gj_goq gj_clT ok_79 [4, 8, 15, 20, 33, 38, 58] ?_
  show gj_Do E om0 (gj_mt 78) [(.ref 1)] SI SJ _
  refine gj_Do.mono h (fun v_ SI2 SJ2 h_ => ?_)
  obtain ⟨r1, rfl, q1⟩ := h_
  show gj_Goes E om0 mt_79 4 [some (.ref 1), some (.ref 133), none] [(.int r1)] SI2 SJ2 (QI Q)
  refine gj_goq gj_clT ok_79 [4, 8, 15, 20, 33, 38, 58] ?_
  show gj_Do E om0 (gj_mt 288) [(.ref 133)] SI2 SJ2 _
  refine gj_Do.mono q1 (fun v_ SI4 SJ4 h_ => ?_)
  obtain ⟨r3, rfl, q2⟩ := h_
  show gj_Goes E om0 mt_79 8 [some (.ref 1), some (.ref 133), none] [(.int r3), (.int r1)] SI4 SJ4 (QI Q)
  refine gj_goq gj_clT ok_79 [4, 8, 15, 20, 33, 38, 58] ?_
  show (r1 = r3 → gj_Goes E om0 mt_79 13 [some (.ref 1), some (.ref 133), none] [] SI4 SJ4 (QI Q)) ∧ (¬ r1 = r3 → ((i3 0) = 0 ∨ (i3 0) = 1) ∧ (QI Q (some (.int (i3 0))) SI4 SJ4))
  refine ⟨fun c3 => ?_, fun c3 => ?_⟩
  · refine gj_goq gj_clT ok_79 [4, 8, 15, 20, 33, 38, 58] ?_
    show gj_Goes E om0 mt_79 15 [some (.ref 1), some (.ref 133), some (.int (i3 0))] [] SI4 SJ4 (QI Q)
    exact (q2.1 c3)
  · refine ⟨(Or.inl rfl), ?_⟩
    exact ⟨_, rfl, (q2.2 c3)⟩
set_option maxRecDepth 20000 in
theorem lp_79_15_1_133 {E : gj_E} {Q : Int32 → gj_I → gj_J → Prop} (x2 : Int32) (SI : gj_I) (SJ : gj_J) (h : DoI E 288 [(.ref 133)] SI SJ (fun r1 SI2 SJ2 => (r1 ≤ x2 → DoI E 288 [(.ref 133)] SI2 SJ2 (fun r3 SI4 SJ4 => Q (i3 1) (gj_u2 SI4 1 2 ((SI2 1 2) + r3)) SJ4)) ∧ (¬ r1 ≤ x2 → DoI E 73 [(.ref 1), (.int ((SI2 1 2) + x2))] SI2 SJ2 (fun r5 SI6 SJ6 => DoI E 289 [(.ref 133), (.int x2)] SI6 SJ6 (fun r7 SI8 SJ8 => (r5 = r7 → GoI E mt_79 15 [some (.ref 1), some (.ref 133), some (.int (x2 + (i3 1)))] SI8 SJ8 Q) ∧ (¬ r5 = r7 → Q (i3 0) SI8 SJ8)))))) : GoI E mt_79 15 [some (.ref 1), some (.ref 133), some (.int x2)] SI SJ Q := by
  refine gj_goq gj_clT ok_79 [4, 8, 15, 20, 33, 38, 58] ?_
  show gj_Do E om0 (gj_mt 288) [(.ref 133)] SI SJ _
  refine gj_Do.mono h (fun v_ SI2 SJ2 h_ => ?_)
  obtain ⟨r1, rfl, q1⟩ := h_
  show gj_Goes E om0 mt_79 20 [some (.ref 1), some (.ref 133), some (.int x2)] [(.int r1), (.int x2)] SI2 SJ2 (QI Q)
  refine gj_goq gj_clT ok_79 [4, 8, 15, 20, 33, 38, 58] ?_
  show (r1 ≤ x2 → gj_Goes E om0 mt_79 49 [some (.ref 1), some (.ref 133), some (.int x2)] [] SI2 SJ2 (QI Q)) ∧ (¬ r1 ≤ x2 → gj_Do E om0 (gj_mt 73) [(.ref 1), (.int ((SI2 1 2) + x2))] SI2 SJ2 _)
  refine ⟨fun c2 => ?_, fun c2 => ?_⟩
  · refine gj_goq gj_clT ok_79 [4, 8, 15, 20, 33, 38, 58] ?_
    show gj_Do E om0 (gj_mt 288) [(.ref 133)] SI2 SJ2 _
    refine gj_Do.mono (q1.1 c2) (fun v_ SI4 SJ4 h_ => ?_)
    obtain ⟨r3, rfl, q3⟩ := h_
    show gj_Goes E om0 mt_79 58 [some (.ref 1), some (.ref 133), some (.int x2)] [(.int r3), (.int (SI2 1 2)), (.ref 1)] SI4 SJ4 (QI Q)
    refine gj_goq gj_clT ok_79 [4, 8, 15, 20, 33, 38, 58] ?_
    show ((i3 1) = 0 ∨ (i3 1) = 1) ∧ (QI Q (some (.int (i3 1))) (gj_u2 SI4 1 2 ((SI2 1 2) + r3)) SJ4)
    refine ⟨(Or.inr rfl), ?_⟩
    exact ⟨_, rfl, q3⟩
  · refine gj_Do.mono (q1.2 c2) (fun v_ SI6 SJ6 h_ => ?_)
    obtain ⟨r5, rfl, q4⟩ := h_
    show gj_Goes E om0 mt_79 33 [some (.ref 1), some (.ref 133), some (.int x2)] [(.int r5)] SI6 SJ6 (QI Q)
    refine gj_goq gj_clT ok_79 [4, 8, 15, 20, 33, 38, 58] ?_
    show gj_Do E om0 (gj_mt 289) [(.ref 133), (.int x2)] SI6 SJ6 _
    refine gj_Do.mono q4 (fun v_ SI8 SJ8 h_ => ?_)
    obtain ⟨r7, rfl, q5⟩ := h_
    show gj_Goes E om0 mt_79 38 [some (.ref 1), some (.ref 133), some (.int x2)] [(.int r7), (.int r5)] SI8 SJ8 (QI Q)
    refine gj_goq gj_clT ok_79 [4, 8, 15, 20, 33, 38, 58] ?_
    show (r5 = r7 → gj_Goes E om0 mt_79 43 [some (.ref 1), some (.ref 133), some (.int x2)] [] SI8 SJ8 (QI Q)) ∧ (¬ r5 = r7 → ((i3 0) = 0 ∨ (i3 0) = 1) ∧ (QI Q (some (.int (i3 0))) SI8 SJ8))
    refine ⟨fun c6 => ?_, fun c6 => ?_⟩
    · refine gj_goq gj_clT ok_79 [4, 8, 15, 20, 33, 38, 58] ?_
      show gj_Goes E om0 mt_79 15 [some (.ref 1), some (.ref 133), some (.int (x2 + (i3 1)))] [] SI8 SJ8 (QI Q)
      exact (q5.1 c6)
    · refine ⟨(Or.inl rfl), ?_⟩
      exact ⟨_, rfl, (q5.2 c6)⟩
set_option maxRecDepth 20000 in
theorem st_79_1_134 {E : gj_E} {Q : Int32 → gj_I → gj_J → Prop} (SI : gj_I) (SJ : gj_J) (h : DoI E 78 [(.ref 1)] SI SJ (fun r1 SI2 SJ2 => DoI E 288 [(.ref 134)] SI2 SJ2 (fun r3 SI4 SJ4 => (r1 = r3 → GoI E mt_79 15 [some (.ref 1), some (.ref 134), some (.int (i3 0))] SI4 SJ4 Q) ∧ (¬ r1 = r3 → Q (i3 0) SI4 SJ4)))) : DoI E 79 [(.ref 1), (.ref 134)] SI SJ Q := by
  refine gj_start (M := mt_79) ok_79 (Nat.le_of_ble_eq_true rfl) ?_
  refine gj_goq gj_clT ok_79 [4, 8, 15, 20, 33, 38, 58] ?_
  show gj_Do E om0 (gj_mt 78) [(.ref 1)] SI SJ _
  refine gj_Do.mono h (fun v_ SI2 SJ2 h_ => ?_)
  obtain ⟨r1, rfl, q1⟩ := h_
  show gj_Goes E om0 mt_79 4 [some (.ref 1), some (.ref 134), none] [(.int r1)] SI2 SJ2 (QI Q)
  refine gj_goq gj_clT ok_79 [4, 8, 15, 20, 33, 38, 58] ?_
  show gj_Do E om0 (gj_mt 288) [(.ref 134)] SI2 SJ2 _
  refine gj_Do.mono q1 (fun v_ SI4 SJ4 h_ => ?_)
  obtain ⟨r3, rfl, q2⟩ := h_
  show gj_Goes E om0 mt_79 8 [some (.ref 1), some (.ref 134), none] [(.int r3), (.int r1)] SI4 SJ4 (QI Q)
  refine gj_goq gj_clT ok_79 [4, 8, 15, 20, 33, 38, 58] ?_
  show (r1 = r3 → gj_Goes E om0 mt_79 13 [some (.ref 1), some (.ref 134), none] [] SI4 SJ4 (QI Q)) ∧ (¬ r1 = r3 → ((i3 0) = 0 ∨ (i3 0) = 1) ∧ (QI Q (some (.int (i3 0))) SI4 SJ4))
  refine ⟨fun c3 => ?_, fun c3 => ?_⟩
  · refine gj_goq gj_clT ok_79 [4, 8, 15, 20, 33, 38, 58] ?_
    show gj_Goes E om0 mt_79 15 [some (.ref 1), some (.ref 134), some (.int (i3 0))] [] SI4 SJ4 (QI Q)
    exact (q2.1 c3)
  · refine ⟨(Or.inl rfl), ?_⟩
    exact ⟨_, rfl, (q2.2 c3)⟩
set_option maxRecDepth 20000 in
theorem lp_79_15_1_134 {E : gj_E} {Q : Int32 → gj_I → gj_J → Prop} (x2 : Int32) (SI : gj_I) (SJ : gj_J) (h : DoI E 288 [(.ref 134)] SI SJ (fun r1 SI2 SJ2 => (r1 ≤ x2 → DoI E 288 [(.ref 134)] SI2 SJ2 (fun r3 SI4 SJ4 => Q (i3 1) (gj_u2 SI4 1 2 ((SI2 1 2) + r3)) SJ4)) ∧ (¬ r1 ≤ x2 → DoI E 73 [(.ref 1), (.int ((SI2 1 2) + x2))] SI2 SJ2 (fun r5 SI6 SJ6 => DoI E 289 [(.ref 134), (.int x2)] SI6 SJ6 (fun r7 SI8 SJ8 => (r5 = r7 → GoI E mt_79 15 [some (.ref 1), some (.ref 134), some (.int (x2 + (i3 1)))] SI8 SJ8 Q) ∧ (¬ r5 = r7 → Q (i3 0) SI8 SJ8)))))) : GoI E mt_79 15 [some (.ref 1), some (.ref 134), some (.int x2)] SI SJ Q := by
  refine gj_goq gj_clT ok_79 [4, 8, 15, 20, 33, 38, 58] ?_
  show gj_Do E om0 (gj_mt 288) [(.ref 134)] SI SJ _
  refine gj_Do.mono h (fun v_ SI2 SJ2 h_ => ?_)
  obtain ⟨r1, rfl, q1⟩ := h_
  show gj_Goes E om0 mt_79 20 [some (.ref 1), some (.ref 134), some (.int x2)] [(.int r1), (.int x2)] SI2 SJ2 (QI Q)
  refine gj_goq gj_clT ok_79 [4, 8, 15, 20, 33, 38, 58] ?_
  show (r1 ≤ x2 → gj_Goes E om0 mt_79 49 [some (.ref 1), some (.ref 134), some (.int x2)] [] SI2 SJ2 (QI Q)) ∧ (¬ r1 ≤ x2 → gj_Do E om0 (gj_mt 73) [(.ref 1), (.int ((SI2 1 2) + x2))] SI2 SJ2 _)
  refine ⟨fun c2 => ?_, fun c2 => ?_⟩
  · refine gj_goq gj_clT ok_79 [4, 8, 15, 20, 33, 38, 58] ?_
    show gj_Do E om0 (gj_mt 288) [(.ref 134)] SI2 SJ2 _
    refine gj_Do.mono (q1.1 c2) (fun v_ SI4 SJ4 h_ => ?_)
    obtain ⟨r3, rfl, q3⟩ := h_
    show gj_Goes E om0 mt_79 58 [some (.ref 1), some (.ref 134), some (.int x2)] [(.int r3), (.int (SI2 1 2)), (.ref 1)] SI4 SJ4 (QI Q)
    refine gj_goq gj_clT ok_79 [4, 8, 15, 20, 33, 38, 58] ?_
    show ((i3 1) = 0 ∨ (i3 1) = 1) ∧ (QI Q (some (.int (i3 1))) (gj_u2 SI4 1 2 ((SI2 1 2) + r3)) SJ4)
    refine ⟨(Or.inr rfl), ?_⟩
    exact ⟨_, rfl, q3⟩
  · refine gj_Do.mono (q1.2 c2) (fun v_ SI6 SJ6 h_ => ?_)
    obtain ⟨r5, rfl, q4⟩ := h_
    show gj_Goes E om0 mt_79 33 [some (.ref 1), some (.ref 134), some (.int x2)] [(.int r5)] SI6 SJ6 (QI Q)
    refine gj_goq gj_clT ok_79 [4, 8, 15, 20, 33, 38, 58] ?_
    show gj_Do E om0 (gj_mt 289) [(.ref 134), (.int x2)] SI6 SJ6 _
    refine gj_Do.mono q4 (fun v_ SI8 SJ8 h_ => ?_)
    obtain ⟨r7, rfl, q5⟩ := h_
    show gj_Goes E om0 mt_79 38 [some (.ref 1), some (.ref 134), some (.int x2)] [(.int r7), (.int r5)] SI8 SJ8 (QI Q)
    refine gj_goq gj_clT ok_79 [4, 8, 15, 20, 33, 38, 58] ?_
    show (r5 = r7 → gj_Goes E om0 mt_79 43 [some (.ref 1), some (.ref 134), some (.int x2)] [] SI8 SJ8 (QI Q)) ∧ (¬ r5 = r7 → ((i3 0) = 0 ∨ (i3 0) = 1) ∧ (QI Q (some (.int (i3 0))) SI8 SJ8))
    refine ⟨fun c6 => ?_, fun c6 => ?_⟩
    · refine gj_goq gj_clT ok_79 [4, 8, 15, 20, 33, 38, 58] ?_
      show gj_Goes E om0 mt_79 15 [some (.ref 1), some (.ref 134), some (.int (x2 + (i3 1)))] [] SI8 SJ8 (QI Q)
      exact (q5.1 c6)
    · refine ⟨(Or.inl rfl), ?_⟩
      exact ⟨_, rfl, (q5.2 c6)⟩
set_option maxRecDepth 20000 in
theorem st_79_1_135 {E : gj_E} {Q : Int32 → gj_I → gj_J → Prop} (SI : gj_I) (SJ : gj_J) (h : DoI E 78 [(.ref 1)] SI SJ (fun r1 SI2 SJ2 => DoI E 288 [(.ref 135)] SI2 SJ2 (fun r3 SI4 SJ4 => (r1 = r3 → GoI E mt_79 15 [some (.ref 1), some (.ref 135), some (.int (i3 0))] SI4 SJ4 Q) ∧ (¬ r1 = r3 → Q (i3 0) SI4 SJ4)))) : DoI E 79 [(.ref 1), (.ref 135)] SI SJ Q := by
  refine gj_start (M := mt_79) ok_79 (Nat.le_of_ble_eq_true rfl) ?_
  refine gj_goq gj_clT ok_79 [4, 8, 15, 20, 33, 38, 58] ?_
  show gj_Do E om0 (gj_mt 78) [(.ref 1)] SI SJ _
  refine gj_Do.mono h (fun v_ SI2 SJ2 h_ => ?_)
  obtain ⟨r1, rfl, q1⟩ := h_
  show gj_Goes E om0 mt_79 4 [some (.ref 1), some (.ref 135), none] [(.int r1)] SI2 SJ2 (QI Q)
  refine gj_goq gj_clT ok_79 [4, 8, 15, 20, 33, 38, 58] ?_
  show gj_Do E om0 (gj_mt 288) [(.ref 135)] SI2 SJ2 _
  refine gj_Do.mono q1 (fun v_ SI4 SJ4 h_ => ?_)
  obtain ⟨r3, rfl, q2⟩ := h_
  show gj_Goes E om0 mt_79 8 [some (.ref 1), some (.ref 135), none] [(.int r3), (.int r1)] SI4 SJ4 (QI Q)
  refine gj_goq gj_clT ok_79 [4, 8, 15, 20, 33, 38, 58] ?_
  show (r1 = r3 → gj_Goes E om0 mt_79 13 [some (.ref 1), some (.ref 135), none] [] SI4 SJ4 (QI Q)) ∧ (¬ r1 = r3 → ((i3 0) = 0 ∨ (i3 0) = 1) ∧ (QI Q (some (.int (i3 0))) SI4 SJ4))
  refine ⟨fun c3 => ?_, fun c3 => ?_⟩
  · refine gj_goq gj_clT ok_79 [4, 8, 15, 20, 33, 38, 58] ?_
    show gj_Goes E om0 mt_79 15 [some (.ref 1), some (.ref 135), some (.int (i3 0))] [] SI4 SJ4 (QI Q)
    exact (q2.1 c3)
  · refine ⟨(Or.inl rfl), ?_⟩
    exact ⟨_, rfl, (q2.2 c3)⟩
set_option maxRecDepth 20000 in
theorem lp_79_15_1_135 {E : gj_E} {Q : Int32 → gj_I → gj_J → Prop} (x2 : Int32) (SI : gj_I) (SJ : gj_J) (h : DoI E 288 [(.ref 135)] SI SJ (fun r1 SI2 SJ2 => (r1 ≤ x2 → DoI E 288 [(.ref 135)] SI2 SJ2 (fun r3 SI4 SJ4 => Q (i3 1) (gj_u2 SI4 1 2 ((SI2 1 2) + r3)) SJ4)) ∧ (¬ r1 ≤ x2 → DoI E 73 [(.ref 1), (.int ((SI2 1 2) + x2))] SI2 SJ2 (fun r5 SI6 SJ6 => DoI E 289 [(.ref 135), (.int x2)] SI6 SJ6 (fun r7 SI8 SJ8 => (r5 = r7 → GoI E mt_79 15 [some (.ref 1), some (.ref 135), some (.int (x2 + (i3 1)))] SI8 SJ8 Q) ∧ (¬ r5 = r7 → Q (i3 0) SI8 SJ8)))))) : GoI E mt_79 15 [some (.ref 1), some (.ref 135), some (.int x2)] SI SJ Q := by
  refine gj_goq gj_clT ok_79 [4, 8, 15, 20, 33, 38, 58] ?_
  show gj_Do E om0 (gj_mt 288) [(.ref 135)] SI SJ _
  refine gj_Do.mono h (fun v_ SI2 SJ2 h_ => ?_)
  obtain ⟨r1, rfl, q1⟩ := h_
  show gj_Goes E om0 mt_79 20 [some (.ref 1), some (.ref 135), some (.int x2)] [(.int r1), (.int x2)] SI2 SJ2 (QI Q)
  refine gj_goq gj_clT ok_79 [4, 8, 15, 20, 33, 38, 58] ?_
  show (r1 ≤ x2 → gj_Goes E om0 mt_79 49 [some (.ref 1), some (.ref 135), some (.int x2)] [] SI2 SJ2 (QI Q)) ∧ (¬ r1 ≤ x2 → gj_Do E om0 (gj_mt 73) [(.ref 1), (.int ((SI2 1 2) + x2))] SI2 SJ2 _)
  refine ⟨fun c2 => ?_, fun c2 => ?_⟩
  · refine gj_goq gj_clT ok_79 [4, 8, 15, 20, 33, 38, 58] ?_
    show gj_Do E om0 (gj_mt 288) [(.ref 135)] SI2 SJ2 _
    refine gj_Do.mono (q1.1 c2) (fun v_ SI4 SJ4 h_ => ?_)
    obtain ⟨r3, rfl, q3⟩ := h_
    show gj_Goes E om0 mt_79 58 [some (.ref 1), some (.ref 135), some (.int x2)] [(.int r3), (.int (SI2 1 2)), (.ref 1)] SI4 SJ4 (QI Q)
    refine gj_goq gj_clT ok_79 [4, 8, 15, 20, 33, 38, 58] ?_
    show ((i3 1) = 0 ∨ (i3 1) = 1) ∧ (QI Q (some (.int (i3 1))) (gj_u2 SI4 1 2 ((SI2 1 2) + r3)) SJ4)
    refine ⟨(Or.inr rfl), ?_⟩
    exact ⟨_, rfl, q3⟩
  · refine gj_Do.mono (q1.2 c2) (fun v_ SI6 SJ6 h_ => ?_)
    obtain ⟨r5, rfl, q4⟩ := h_
    show gj_Goes E om0 mt_79 33 [some (.ref 1), some (.ref 135), some (.int x2)] [(.int r5)] SI6 SJ6 (QI Q)
    refine gj_goq gj_clT ok_79 [4, 8, 15, 20, 33, 38, 58] ?_
    show gj_Do E om0 (gj_mt 289) [(.ref 135), (.int x2)] SI6 SJ6 _
    refine gj_Do.mono q4 (fun v_ SI8 SJ8 h_ => ?_)
    obtain ⟨r7, rfl, q5⟩ := h_
    show gj_Goes E om0 mt_79 38 [some (.ref 1), some (.ref 135), some (.int x2)] [(.int r7), (.int r5)] SI8 SJ8 (QI Q)
    refine gj_goq gj_clT ok_79 [4, 8, 15, 20, 33, 38, 58] ?_
    show (r5 = r7 → gj_Goes E om0 mt_79 43 [some (.ref 1), some (.ref 135), some (.int x2)] [] SI8 SJ8 (QI Q)) ∧ (¬ r5 = r7 → ((i3 0) = 0 ∨ (i3 0) = 1) ∧ (QI Q (some (.int (i3 0))) SI8 SJ8))
    refine ⟨fun c6 => ?_, fun c6 => ?_⟩
    · refine gj_goq gj_clT ok_79 [4, 8, 15, 20, 33, 38, 58] ?_
      show gj_Goes E om0 mt_79 15 [some (.ref 1), some (.ref 135), some (.int (x2 + (i3 1)))] [] SI8 SJ8 (QI Q)
      exact (q5.1 c6)
    · refine ⟨(Or.inl rfl), ?_⟩
      exact ⟨_, rfl, (q5.2 c6)⟩
set_option maxRecDepth 20000 in
/-- java/lang/Integer.bitCount -/
theorem st_284 {E : gj_E} {Q : Int32 → gj_I → gj_J → Prop} (a1 : Int32) (SI : gj_I) (SJ : gj_J) (h : Q ((((((((a1 - ((a1.toUInt32 >>> ((i3 1).toUInt32 &&& Int32.toUInt32 31)).toInt32 &&& (i3 1431655765))) &&& (i3 858993459)) + (((a1 - ((a1.toUInt32 >>> ((i3 1).toUInt32 &&& Int32.toUInt32 31)).toInt32 &&& (i3 1431655765))).toUInt32 >>> ((i3 2).toUInt32 &&& Int32.toUInt32 31)).toInt32 &&& (i3 858993459))) + ((((a1 - ((a1.toUInt32 >>> ((i3 1).toUInt32 &&& Int32.toUInt32 31)).toInt32 &&& (i3 1431655765))) &&& (i3 858993459)) + (((a1 - ((a1.toUInt32 >>> ((i3 1).toUInt32 &&& Int32.toUInt32 31)).toInt32 &&& (i3 1431655765))).toUInt32 >>> ((i3 2).toUInt32 &&& Int32.toUInt32 31)).toInt32 &&& (i3 858993459))).toUInt32 >>> ((i3 4).toUInt32 &&& Int32.toUInt32 31)).toInt32) &&& (i3 252645135)) + ((((((a1 - ((a1.toUInt32 >>> ((i3 1).toUInt32 &&& Int32.toUInt32 31)).toInt32 &&& (i3 1431655765))) &&& (i3 858993459)) + (((a1 - ((a1.toUInt32 >>> ((i3 1).toUInt32 &&& Int32.toUInt32 31)).toInt32 &&& (i3 1431655765))).toUInt32 >>> ((i3 2).toUInt32 &&& Int32.toUInt32 31)).toInt32 &&& (i3 858993459))) + ((((a1 - ((a1.toUInt32 >>> ((i3 1).toUInt32 &&& Int32.toUInt32 31)).toInt32 &&& (i3 1431655765))) &&& (i3 858993459)) + (((a1 - ((a1.toUInt32 >>> ((i3 1).toUInt32 &&& Int32.toUInt32 31)).toInt32 &&& (i3 1431655765))).toUInt32 >>> ((i3 2).toUInt32 &&& Int32.toUInt32 31)).toInt32 &&& (i3 858993459))).toUInt32 >>> ((i3 4).toUInt32 &&& Int32.toUInt32 31)).toInt32) &&& (i3 252645135)).toUInt32 >>> ((i3 8).toUInt32 &&& Int32.toUInt32 31)).toInt32) + (((((((a1 - ((a1.toUInt32 >>> ((i3 1).toUInt32 &&& Int32.toUInt32 31)).toInt32 &&& (i3 1431655765))) &&& (i3 858993459)) + (((a1 - ((a1.toUInt32 >>> ((i3 1).toUInt32 &&& Int32.toUInt32 31)).toInt32 &&& (i3 1431655765))).toUInt32 >>> ((i3 2).toUInt32 &&& Int32.toUInt32 31)).toInt32 &&& (i3 858993459))) + ((((a1 - ((a1.toUInt32 >>> ((i3 1).toUInt32 &&& Int32.toUInt32 31)).toInt32 &&& (i3 1431655765))) &&& (i3 858993459)) + (((a1 - ((a1.toUInt32 >>> ((i3 1).toUInt32 &&& Int32.toUInt32 31)).toInt32 &&& (i3 1431655765))).toUInt32 >>> ((i3 2).toUInt32 &&& Int32.toUInt32 31)).toInt32 &&& (i3 858993459))).toUInt32 >>> ((i3 4).toUInt32 &&& Int32.toUInt32 31)).toInt32) &&& (i3 252645135)) + ((((((a1 - ((a1.toUInt32 >>> ((i3 1).toUInt32 &&& Int32.toUInt32 31)).toInt32 &&& (i3 1431655765))) &&& (i3 858993459)) + (((a1 - ((a1.toUInt32 >>> ((i3 1).toUInt32 &&& Int32.toUInt32 31)).toInt32 &&& (i3 1431655765))).toUInt32 >>> ((i3 2).toUInt32 &&& Int32.toUInt32 31)).toInt32 &&& (i3 858993459))) + ((((a1 - ((a1.toUInt32 >>> ((i3 1).toUInt32 &&& Int32.toUInt32 31)).toInt32 &&& (i3 1431655765))) &&& (i3 858993459)) + (((a1 - ((a1.toUInt32 >>> ((i3 1).toUInt32 &&& Int32.toUInt32 31)).toInt32 &&& (i3 1431655765))).toUInt32 >>> ((i3 2).toUInt32 &&& Int32.toUInt32 31)).toInt32 &&& (i3 858993459))).toUInt32 >>> ((i3 4).toUInt32 &&& Int32.toUInt32 31)).toInt32) &&& (i3 252645135)).toUInt32 >>> ((i3 8).toUInt32 &&& Int32.toUInt32 31)).toInt32).toUInt32 >>> ((i3 16).toUInt32 &&& Int32.toUInt32 31)).toInt32) &&& (i3 63)) SI SJ) : DoI E 284 [(.int a1)] SI SJ Q := by
  refine gj_start (M := mt_284) ok_284 (Nat.le_of_ble_eq_true rfl) ?_
  refine gj_goq gj_clT ok_284 [] ?_
  show QI Q (some (.int ((((((((a1 - ((a1.toUInt32 >>> ((i3 1).toUInt32 &&& Int32.toUInt32 31)).toInt32 &&& (i3 1431655765))) &&& (i3 858993459)) + (((a1 - ((a1.toUInt32 >>> ((i3 1).toUInt32 &&& Int32.toUInt32 31)).toInt32 &&& (i3 1431655765))).toUInt32 >>> ((i3 2).toUInt32 &&& Int32.toUInt32 31)).toInt32 &&& (i3 858993459))) + ((((a1 - ((a1.toUInt32 >>> ((i3 1).toUInt32 &&& Int32.toUInt32 31)).toInt32 &&& (i3 1431655765))) &&& (i3 858993459)) + (((a1 - ((a1.toUInt32 >>> ((i3 1).toUInt32 &&& Int32.toUInt32 31)).toInt32 &&& (i3 1431655765))).toUInt32 >>> ((i3 2).toUInt32 &&& Int32.toUInt32 31)).toInt32 &&& (i3 858993459))).toUInt32 >>> ((i3 4).toUInt32 &&& Int32.toUInt32 31)).toInt32) &&& (i3 252645135)) + ((((((a1 - ((a1.toUInt32 >>> ((i3 1).toUInt32 &&& Int32.toUInt32 31)).toInt32 &&& (i3 1431655765))) &&& (i3 858993459)) + (((a1 - ((a1.toUInt32 >>> ((i3 1).toUInt32 &&& Int32.toUInt32 31)).toInt32 &&& (i3 1431655765))).toUInt32 >>> ((i3 2).toUInt32 &&& Int32.toUInt32 31)).toInt32 &&& (i3 858993459))) + ((((a1 - ((a1.toUInt32 >>> ((i3 1).toUInt32 &&& Int32.toUInt32 31)).toInt32 &&& (i3 1431655765))) &&& (i3 858993459)) + (((a1 - ((a1.toUInt32 >>> ((i3 1).toUInt32 &&& Int32.toUInt32 31)).toInt32 &&& (i3 1431655765))).toUInt32 >>> ((i3 2).toUInt32 &&& Int32.toUInt32 31)).toInt32 &&& (i3 858993459))).toUInt32 >>> ((i3 4).toUInt32 &&& Int32.toUInt32 31)).toInt32) &&& (i3 252645135)).toUInt32 >>> ((i3 8).toUInt32 &&& Int32.toUInt32 31)).toInt32) + (((((((a1 - ((a1.toUInt32 >>> ((i3 1).toUInt32 &&& Int32.toUInt32 31)).toInt32 &&& (i3 1431655765))) &&& (i3 858993459)) + (((a1 - ((a1.toUInt32 >>> ((i3 1).toUInt32 &&& Int32.toUInt32 31)).toInt32 &&& (i3 1431655765))).toUInt32 >>> ((i3 2).toUInt32 &&& Int32.toUInt32 31)).toInt32 &&& (i3 858993459))) + ((((a1 - ((a1.toUInt32 >>> ((i3 1).toUInt32 &&& Int32.toUInt32 31)).toInt32 &&& (i3 1431655765))) &&& (i3 858993459)) + (((a1 - ((a1.toUInt32 >>> ((i3 1).toUInt32 &&& Int32.toUInt32 31)).toInt32 &&& (i3 1431655765))).toUInt32 >>> ((i3 2).toUInt32 &&& Int32.toUInt32 31)).toInt32 &&& (i3 858993459))).toUInt32 >>> ((i3 4).toUInt32 &&& Int32.toUInt32 31)).toInt32) &&& (i3 252645135)) + ((((((a1 - ((a1.toUInt32 >>> ((i3 1).toUInt32 &&& Int32.toUInt32 31)).toInt32 &&& (i3 1431655765))) &&& (i3 858993459)) + (((a1 - ((a1.toUInt32 >>> ((i3 1).toUInt32 &&& Int32.toUInt32 31)).toInt32 &&& (i3 1431655765))).toUInt32 >>> ((i3 2).toUInt32 &&& Int32.toUInt32 31)).toInt32 &&& (i3 858993459))) + ((((a1 - ((a1.toUInt32 >>> ((i3 1).toUInt32 &&& Int32.toUInt32 31)).toInt32 &&& (i3 1431655765))) &&& (i3 858993459)) + (((a1 - ((a1.toUInt32 >>> ((i3 1).toUInt32 &&& Int32.toUInt32 31)).toInt32 &&& (i3 1431655765))).toUInt32 >>> ((i3 2).toUInt32 &&& Int32.toUInt32 31)).toInt32 &&& (i3 858993459))).toUInt32 >>> ((i3 4).toUInt32 &&& Int32.toUInt32 31)).toInt32) &&& (i3 252645135)).toUInt32 >>> ((i3 8).toUInt32 &&& Int32.toUInt32 31)).toInt32).toUInt32 >>> ((i3 16).toUInt32 &&& Int32.toUInt32 31)).toInt32) &&& (i3 63)))) SI SJ
  exact ⟨_, rfl, h⟩
set_option maxRecDepth 20000 in
/-- java/lang/Integer.signum -/
theorem st_285 {E : gj_E} {Q : Int32 → gj_I → gj_J → Prop} (a1 : Int32) (SI : gj_I) (SJ : gj_J) (h : Q ((a1 >>> ((i3 31) &&& 31)) ||| ((-a1).toUInt32 >>> ((i3 31).toUInt32 &&& Int32.toUInt32 31)).toInt32) SI SJ) : DoI E 285 [(.int a1)] SI SJ Q := by
  refine gj_start (M := mt_285) ok_285 (Nat.le_of_ble_eq_true rfl) ?_
  refine gj_goq gj_clT ok_285 [] ?_
  show QI Q (some (.int ((a1 >>> ((i3 31) &&& 31)) ||| ((-a1).toUInt32 >>> ((i3 31).toUInt32 &&& Int32.toUInt32 31)).toInt32))) SI SJ
  exact ⟨_, rfl, h⟩
set_option maxRecDepth 20000 in
/-- java/lang/Long.compare -/
theorem st_286 {E : gj_E} {Q : Int32 → gj_I → gj_J → Prop} (a1 : Int64) (a2 : Int64) (SI : gj_I) (SJ : gj_J) (h : (a1 ≥ a2 → (¬ a1 = a2 → Q (i3 1) SI SJ) ∧ (a1 = a2 → Q (i3 0) SI SJ)) ∧ (¬ a1 ≥ a2 → Q (i3 (-1)) SI SJ)) : DoI E 286 [(.long a1), (.long a2)] SI SJ Q := by
  refine gj_start (M := mt_286) ok_286 (Nat.le_of_ble_eq_true rfl) ?_
  refine gj_goq gj_clT ok_286 [] ?_
  show (0 ≤ (lg_cmp a1 a2) → gj_Goes E om0 mt_286 10 [some (.long a1), none, some (.long a2), none] [] SI SJ (QI Q)) ∧ (¬ 0 ≤ (lg_cmp a1 a2) → gj_Goes E om0 mt_286 21 [some (.long a1), none, some (.long a2), none] [(.int (i3 (-1)))] SI SJ (QI Q))
  refine ⟨fun c1 => ?_, fun c1 => ?_⟩
  · refine gj_goq gj_clT ok_286 [] ?_
    show (¬ (lg_cmp a1 a2) = 0 → gj_Goes E om0 mt_286 20 [some (.long a1), none, some (.long a2), none] [] SI SJ (QI Q)) ∧ ((lg_cmp a1 a2) = 0 → gj_Goes E om0 mt_286 21 [some (.long a1), none, some (.long a2), none] [(.int (i3 0))] SI SJ (QI Q))
    refine ⟨fun c2 => ?_, fun c2 => ?_⟩
    · refine gj_goq gj_clT ok_286 [] ?_
      show QI Q (some (.int (i3 1))) SI SJ
      exact ⟨_, rfl, ((h.1 (lgc_ge.mp c1)).1 (fun z_ => c2 (lgc_eq.mpr z_)))⟩
    · refine gj_goq gj_clT ok_286 [] ?_
      show QI Q (some (.int (i3 0))) SI SJ
      exact ⟨_, rfl, ((h.1 (lgc_ge.mp c1)).2 (lgc_eq.mp c2))⟩
  · refine gj_goq gj_clT ok_286 [] ?_
    show QI Q (some (.int (i3 (-1)))) SI SJ
    exact ⟨_, rfl, (h.2 (fun z_ => c1 (lgc_ge.mpr z_)))⟩
set_option maxRecDepth 20000 in
/-- java/lang/Long.signum -/
theorem st_287 {E : gj_E} {Q : Int32 → gj_I → gj_J → Prop} (a1 : Int64) (SI : gj_I) (SJ : gj_J) (h : Q (((a1 >>> ((i3 63).toInt64 &&& 63)) ||| ((-a1).toUInt64 >>> ((i3 63).toInt64.toUInt64 &&& Int64.toUInt64 63)).toInt64)).toInt32 SI SJ) : DoI E 287 [(.long a1)] SI SJ Q := by
  refine gj_start (M := mt_287) ok_287 (Nat.le_of_ble_eq_true rfl) ?_
  refine gj_goq gj_clT ok_287 [] ?_
  show QI Q (some (.int (((a1 >>> ((i3 63).toInt64 &&& 63)) ||| ((-a1).toUInt64 >>> ((i3 63).toInt64.toUInt64 &&& Int64.toUInt64 63)).toInt64)).toInt32)) SI SJ
  exact ⟨_, rfl, h⟩
set_option maxRecDepth 20000 in
/-- java/lang/String.length -/
theorem st_288_132 {E : gj_E} {Q : Int32 → gj_I → gj_J → Prop} (SI : gj_I) (SJ : gj_J) (h : DoI E 290 [(.ref 132)] SI SJ (fun r1 SI2 SJ2 => Q ((i3 3) >>> (r1 &&& 31)) SI2 SJ2)) : DoI E 288 [(.ref 132)] SI SJ Q := by
  refine gj_start (M := mt_288) ok_288 (Nat.le_of_ble_eq_true rfl) ?_
  refine gj_goq gj_clT ok_288 [9] ?_
  show gj_Do E om0 (gj_mt 290) [(.ref 132)] SI SJ _
  refine gj_Do.mono h (fun v_ SI2 SJ2 h_ => ?_)
  obtain ⟨r1, rfl, q1⟩ := h_
  show gj_Goes E om0 mt_288 9 [some (.ref 132)] [(.int r1), (.int (i3 3))] SI2 SJ2 (QI Q)
  refine gj_goq gj_clT ok_288 [9] ?_
  show QI Q (some (.int ((i3 3) >>> (r1 &&& 31)))) SI2 SJ2
  exact ⟨_, rfl, q1⟩
set_option maxRecDepth 20000 in
theorem st_288_133 {E : gj_E} {Q : Int32 → gj_I → gj_J → Prop} (SI : gj_I) (SJ : gj_J) (h : DoI E 290 [(.ref 133)] SI SJ (fun r1 SI2 SJ2 => Q ((i3 4) >>> (r1 &&& 31)) SI2 SJ2)) : DoI E 288 [(.ref 133)] SI SJ Q := by
  refine gj_start (M := mt_288) ok_288 (Nat.le_of_ble_eq_true rfl) ?_
  refine gj_goq gj_clT ok_288 [9] ?_
  show gj_Do E om0 (gj_mt 290) [(.ref 133)] SI SJ _
  refine gj_Do.mono h (fun v_ SI2 SJ2 h_ => ?_)
  obtain ⟨r1, rfl, q1⟩ := h_
  show gj_Goes E om0 mt_288 9 [some (.ref 133)] [(.int r1), (.int (i3 4))] SI2 SJ2 (QI Q)
  refine gj_goq gj_clT ok_288 [9] ?_
  show QI Q (some (.int ((i3 4) >>> (r1 &&& 31)))) SI2 SJ2
  exact ⟨_, rfl, q1⟩
set_option maxRecDepth 20000 in
theorem st_288_134 {E : gj_E} {Q : Int32 → gj_I → gj_J → Prop} (SI : gj_I) (SJ : gj_J) (h : DoI E 290 [(.ref 134)] SI SJ (fun r1 SI2 SJ2 => Q ((i3 5) >>> (r1 &&& 31)) SI2 SJ2)) : DoI E 288 [(.ref 134)] SI SJ Q := by
  refine gj_start (M := mt_288) ok_288 (Nat.le_of_ble_eq_true rfl) ?_
  refine gj_goq gj_clT ok_288 [9] ?_
  show gj_Do E om0 (gj_mt 290) [(.ref 134)] SI SJ _
  refine gj_Do.mono h (fun v_ SI2 SJ2 h_ => ?_)
  obtain ⟨r1, rfl, q1⟩ := h_
  show gj_Goes E om0 mt_288 9 [some (.ref 134)] [(.int r1), (.int (i3 5))] SI2 SJ2 (QI Q)
  refine gj_goq gj_clT ok_288 [9] ?_
  show QI Q (some (.int ((i3 5) >>> (r1 &&& 31)))) SI2 SJ2
  exact ⟨_, rfl, q1⟩
set_option maxRecDepth 20000 in
theorem st_288_135 {E : gj_E} {Q : Int32 → gj_I → gj_J → Prop} (SI : gj_I) (SJ : gj_J) (h : DoI E 290 [(.ref 135)] SI SJ (fun r1 SI2 SJ2 => Q ((i3 6) >>> (r1 &&& 31)) SI2 SJ2)) : DoI E 288 [(.ref 135)] SI SJ Q := by
  refine gj_start (M := mt_288) ok_288 (Nat.le_of_ble_eq_true rfl) ?_
  refine gj_goq gj_clT ok_288 [9] ?_
  show gj_Do E om0 (gj_mt 290) [(.ref 135)] SI SJ _
  refine gj_Do.mono h (fun v_ SI2 SJ2 h_ => ?_)
  obtain ⟨r1, rfl, q1⟩ := h_
  show gj_Goes E om0 mt_288 9 [some (.ref 135)] [(.int r1), (.int (i3 6))] SI2 SJ2 (QI Q)
  refine gj_goq gj_clT ok_288 [9] ?_
  show QI Q (some (.int ((i3 6) >>> (r1 &&& 31)))) SI2 SJ2
  exact ⟨_, rfl, q1⟩
set_option maxRecDepth 20000 in
/-- java/lang/String.charAt -/
theorem st_289_132 {E : gj_E} {Q : Int32 → gj_I → gj_J → Prop} (a1 : Int32) (SI : gj_I) (SJ : gj_J) (h : DoI E 291 [(.ref 132)] SI SJ (fun r1 SI2 SJ2 => (r1 = 0 → False) ∧ (¬ r1 = 0 → DoI E 293 [(.ref 136), (.int a1)] SI2 SJ2 (fun r3 SI4 SJ4 => narrow .char (.int r3) = .int r3 ∧ (Q r3 SI4 SJ4))))) : DoI E 289 [(.ref 132), (.int a1)] SI SJ Q := by
  refine gj_start (M := mt_289) ok_289 (Nat.le_of_ble_eq_true rfl) ?_
  refine gj_goq gj_clT ok_289 [4, 15] ?_
  show gj_Do E om0 (gj_mt 291) [(.ref 132)] SI SJ _
  refine gj_Do.mono h (fun v_ SI2 SJ2 h_ => ?_)
  obtain ⟨r1, rfl, q1⟩ := h_
  show gj_Goes E om0 mt_289 4 [some (.ref 132), some (.int a1)] [(.int r1)] SI2 SJ2 (QI Q)
  refine gj_goq gj_clT ok_289 [4, 15] ?_
  show (r1 = 0 → gj_Goes E om0 mt_289 16 [some (.ref 132), some (.int a1)] [] SI2 SJ2 (QI Q)) ∧ (¬ r1 = 0 → gj_Do E om0 (gj_mt 293) [(.ref 136), (.int a1)] SI2 SJ2 _)
  refine ⟨fun c2 => ?_, fun c2 => ?_⟩
  · refine gj_goq gj_clT ok_289 [4, 15] ?_
    show False
    exact (q1.1 c2).elim
  · refine gj_Do.mono (q1.2 c2) (fun v_ SI4 SJ4 h_ => ?_)
    obtain ⟨r3, rfl, q3⟩ := h_
    show gj_Goes E om0 mt_289 15 [some (.ref 132), some (.int a1)] [(.int r3)] SI4 SJ4 (QI Q)
    refine gj_goq gj_clT ok_289 [4, 15] ?_
    show narrow .char (.int r3) = .int r3 ∧ (QI Q (some (.int r3)) SI4 SJ4)
    have k4 := q3.1
    refine ⟨k4, ?_⟩
    exact ⟨_, rfl, q3.2⟩
set_option maxRecDepth 20000 in
theorem st_289_133 {E : gj_E} {Q : Int32 → gj_I → gj_J → Prop} (a1 : Int32) (SI : gj_I) (SJ : gj_J) (h : DoI E 291 [(.ref 133)] SI SJ (fun r1 SI2 SJ2 => (r1 = 0 → False) ∧ (¬ r1 = 0 → DoI E 293 [(.ref 137), (.int a1)] SI2 SJ2 (fun r3 SI4 SJ4 => narrow .char (.int r3) = .int r3 ∧ (Q r3 SI4 SJ4))))) : DoI E 289 [(.ref 133), (.int a1)] SI SJ Q := by
  refine gj_start (M := mt_289) ok_289 (Nat.le_of_ble_eq_true rfl) ?_
  refine gj_goq gj_clT ok_289 [4, 15] ?_
  show gj_Do E om0 (gj_mt 291) [(.ref 133)] SI SJ _
  refine gj_Do.mono h (fun v_ SI2 SJ2 h_ => ?_)
  obtain ⟨r1, rfl, q1⟩ := h_
  show gj_Goes E om0 mt_289 4 [some (.ref 133), some (.int a1)] [(.int r1)] SI2 SJ2 (QI Q)
  refine gj_goq gj_clT ok_289 [4, 15] ?_
  show (r1 = 0 → gj_Goes E om0 mt_289 16 [some (.ref 133), some (.int a1)] [] SI2 SJ2 (QI Q)) ∧ (¬ r1 = 0 → gj_Do E om0 (gj_mt 293) [(.ref 137), (.int a1)] SI2 SJ2 _)
  refine ⟨fun c2 => ?_, fun c2 => ?_⟩
  · refine gj_goq gj_clT ok_289 [4, 15] ?_
    show False
    exact (q1.1 c2).elim
  · refine gj_Do.mono (q1.2 c2) (fun v_ SI4 SJ4 h_ => ?_)
    obtain ⟨r3, rfl, q3⟩ := h_
    show gj_Goes E om0 mt_289 15 [some (.ref 133), some (.int a1)] [(.int r3)] SI4 SJ4 (QI Q)
    refine gj_goq gj_clT ok_289 [4, 15] ?_
    show narrow .char (.int r3) = .int r3 ∧ (QI Q (some (.int r3)) SI4 SJ4)
    have k4 := q3.1
    refine ⟨k4, ?_⟩
    exact ⟨_, rfl, q3.2⟩
set_option maxRecDepth 20000 in
theorem st_289_134 {E : gj_E} {Q : Int32 → gj_I → gj_J → Prop} (a1 : Int32) (SI : gj_I) (SJ : gj_J) (h : DoI E 291 [(.ref 134)] SI SJ (fun r1 SI2 SJ2 => (r1 = 0 → False) ∧ (¬ r1 = 0 → DoI E 293 [(.ref 138), (.int a1)] SI2 SJ2 (fun r3 SI4 SJ4 => narrow .char (.int r3) = .int r3 ∧ (Q r3 SI4 SJ4))))) : DoI E 289 [(.ref 134), (.int a1)] SI SJ Q := by
  refine gj_start (M := mt_289) ok_289 (Nat.le_of_ble_eq_true rfl) ?_
  refine gj_goq gj_clT ok_289 [4, 15] ?_
  show gj_Do E om0 (gj_mt 291) [(.ref 134)] SI SJ _
  refine gj_Do.mono h (fun v_ SI2 SJ2 h_ => ?_)
  obtain ⟨r1, rfl, q1⟩ := h_
  show gj_Goes E om0 mt_289 4 [some (.ref 134), some (.int a1)] [(.int r1)] SI2 SJ2 (QI Q)
  refine gj_goq gj_clT ok_289 [4, 15] ?_
  show (r1 = 0 → gj_Goes E om0 mt_289 16 [some (.ref 134), some (.int a1)] [] SI2 SJ2 (QI Q)) ∧ (¬ r1 = 0 → gj_Do E om0 (gj_mt 293) [(.ref 138), (.int a1)] SI2 SJ2 _)
  refine ⟨fun c2 => ?_, fun c2 => ?_⟩
  · refine gj_goq gj_clT ok_289 [4, 15] ?_
    show False
    exact (q1.1 c2).elim
  · refine gj_Do.mono (q1.2 c2) (fun v_ SI4 SJ4 h_ => ?_)
    obtain ⟨r3, rfl, q3⟩ := h_
    show gj_Goes E om0 mt_289 15 [some (.ref 134), some (.int a1)] [(.int r3)] SI4 SJ4 (QI Q)
    refine gj_goq gj_clT ok_289 [4, 15] ?_
    show narrow .char (.int r3) = .int r3 ∧ (QI Q (some (.int r3)) SI4 SJ4)
    have k4 := q3.1
    refine ⟨k4, ?_⟩
    exact ⟨_, rfl, q3.2⟩
set_option maxRecDepth 20000 in
theorem st_289_135 {E : gj_E} {Q : Int32 → gj_I → gj_J → Prop} (a1 : Int32) (SI : gj_I) (SJ : gj_J) (h : DoI E 291 [(.ref 135)] SI SJ (fun r1 SI2 SJ2 => (r1 = 0 → False) ∧ (¬ r1 = 0 → DoI E 293 [(.ref 139), (.int a1)] SI2 SJ2 (fun r3 SI4 SJ4 => narrow .char (.int r3) = .int r3 ∧ (Q r3 SI4 SJ4))))) : DoI E 289 [(.ref 135), (.int a1)] SI SJ Q := by
  refine gj_start (M := mt_289) ok_289 (Nat.le_of_ble_eq_true rfl) ?_
  refine gj_goq gj_clT ok_289 [4, 15] ?_
  show gj_Do E om0 (gj_mt 291) [(.ref 135)] SI SJ _
  refine gj_Do.mono h (fun v_ SI2 SJ2 h_ => ?_)
  obtain ⟨r1, rfl, q1⟩ := h_
  show gj_Goes E om0 mt_289 4 [some (.ref 135), some (.int a1)] [(.int r1)] SI2 SJ2 (QI Q)
  refine gj_goq gj_clT ok_289 [4, 15] ?_
  show (r1 = 0 → gj_Goes E om0 mt_289 16 [some (.ref 135), some (.int a1)] [] SI2 SJ2 (QI Q)) ∧ (¬ r1 = 0 → gj_Do E om0 (gj_mt 293) [(.ref 139), (.int a1)] SI2 SJ2 _)
  refine ⟨fun c2 => ?_, fun c2 => ?_⟩
  · refine gj_goq gj_clT ok_289 [4, 15] ?_
    show False
    exact (q1.1 c2).elim
  · refine gj_Do.mono (q1.2 c2) (fun v_ SI4 SJ4 h_ => ?_)
    obtain ⟨r3, rfl, q3⟩ := h_
    show gj_Goes E om0 mt_289 15 [some (.ref 135), some (.int a1)] [(.int r3)] SI4 SJ4 (QI Q)
    refine gj_goq gj_clT ok_289 [4, 15] ?_
    show narrow .char (.int r3) = .int r3 ∧ (QI Q (some (.int r3)) SI4 SJ4)
    have k4 := q3.1
    refine ⟨k4, ?_⟩
    exact ⟨_, rfl, q3.2⟩
set_option maxRecDepth 20000 in
/-- java/lang/String.coder -/
theorem st_290_132 {E : gj_E} {Q : Int32 → gj_I → gj_J → Prop} (SI : gj_I) (SJ : gj_J) (h : ((i3 1) = 0 → narrow .byte (.int (i3 1)) = .int (i3 1) ∧ (Q (i3 1) SI SJ)) ∧ (¬ (i3 1) = 0 → narrow .byte (.int (i3 0)) = .int (i3 0) ∧ (Q (i3 0) SI SJ))) : DoI E 290 [(.ref 132)] SI SJ Q := by
  refine gj_start (M := mt_290) ok_290 (Nat.le_of_ble_eq_true rfl) ?_
  refine gj_goq gj_clT ok_290 [] ?_
  show ((i3 1) = 0 → gj_Goes E om0 mt_290 13 [some (.ref 132)] [] SI SJ (QI Q)) ∧ (¬ (i3 1) = 0 → gj_Goes E om0 mt_290 14 [some (.ref 132)] [(.int (i3 0))] SI SJ (QI Q))
  refine ⟨fun c1 => ?_, fun c1 => ?_⟩
  · refine gj_goq gj_clT ok_290 [] ?_
    show narrow .byte (.int (i3 1)) = .int (i3 1) ∧ (QI Q (some (.int (i3 1))) SI SJ)
    have k2 := (h.1 c1).1
    refine ⟨k2, ?_⟩
    exact ⟨_, rfl, (h.1 c1).2⟩
  · refine gj_goq gj_clT ok_290 [] ?_
    show narrow .byte (.int (i3 0)) = .int (i3 0) ∧ (QI Q (some (.int (i3 0))) SI SJ)
    have k3 := (h.2 c1).1
    refine ⟨k3, ?_⟩
    exact ⟨_, rfl, (h.2 c1).2⟩
set_option maxRecDepth 20000 in
theorem st_290_133 {E : gj_E} {Q : Int32 → gj_I → gj_J → Prop} (SI : gj_I) (SJ : gj_J) (h : ((i3 1) = 0 → narrow .byte (.int (i3 1)) = .int (i3 1) ∧ (Q (i3 1) SI SJ)) ∧ (¬ (i3 1) = 0 → narrow .byte (.int (i3 0)) = .int (i3 0) ∧ (Q (i3 0) SI SJ))) : DoI E 290 [(.ref 133)] SI SJ Q := by
  refine gj_start (M := mt_290) ok_290 (Nat.le_of_ble_eq_true rfl) ?_
  refine gj_goq gj_clT ok_290 [] ?_
  show ((i3 1) = 0 → gj_Goes E om0 mt_290 13 [some (.ref 133)] [] SI SJ (QI Q)) ∧ (¬ (i3 1) = 0 → gj_Goes E om0 mt_290 14 [some (.ref 133)] [(.int (i3 0))] SI SJ (QI Q))
  refine ⟨fun c1 => ?_, fun c1 => ?_⟩
  · refine gj_goq gj_clT ok_290 [] ?_
    show narrow .byte (.int (i3 1)) = .int (i3 1) ∧ (QI Q (some (.int (i3 1))) SI SJ)
    have k2 := (h.1 c1).1
    refine ⟨k2, ?_⟩
    exact ⟨_, rfl, (h.1 c1).2⟩
  · refine gj_goq gj_clT ok_290 [] ?_
    show narrow .byte (.int (i3 0)) = .int (i3 0) ∧ (QI Q (some (.int (i3 0))) SI SJ)
    have k3 := (h.2 c1).1
    refine ⟨k3, ?_⟩
    exact ⟨_, rfl, (h.2 c1).2⟩
set_option maxRecDepth 20000 in
theorem st_290_134 {E : gj_E} {Q : Int32 → gj_I → gj_J → Prop} (SI : gj_I) (SJ : gj_J) (h : ((i3 1) = 0 → narrow .byte (.int (i3 1)) = .int (i3 1) ∧ (Q (i3 1) SI SJ)) ∧ (¬ (i3 1) = 0 → narrow .byte (.int (i3 0)) = .int (i3 0) ∧ (Q (i3 0) SI SJ))) : DoI E 290 [(.ref 134)] SI SJ Q := by
  refine gj_start (M := mt_290) ok_290 (Nat.le_of_ble_eq_true rfl) ?_
  refine gj_goq gj_clT ok_290 [] ?_
  show ((i3 1) = 0 → gj_Goes E om0 mt_290 13 [some (.ref 134)] [] SI SJ (QI Q)) ∧ (¬ (i3 1) = 0 → gj_Goes E om0 mt_290 14 [some (.ref 134)] [(.int (i3 0))] SI SJ (QI Q))
  refine ⟨fun c1 => ?_, fun c1 => ?_⟩
  · refine gj_goq gj_clT ok_290 [] ?_
    show narrow .byte (.int (i3 1)) = .int (i3 1) ∧ (QI Q (some (.int (i3 1))) SI SJ)
    have k2 := (h.1 c1).1
    refine ⟨k2, ?_⟩
    exact ⟨_, rfl, (h.1 c1).2⟩
  · refine gj_goq gj_clT ok_290 [] ?_
    show narrow .byte (.int (i3 0)) = .int (i3 0) ∧ (QI Q (some (.int (i3 0))) SI SJ)
    have k3 := (h.2 c1).1
    refine ⟨k3, ?_⟩
    exact ⟨_, rfl, (h.2 c1).2⟩
set_option maxRecDepth 20000 in
theorem st_290_135 {E : gj_E} {Q : Int32 → gj_I → gj_J → Prop} (SI : gj_I) (SJ : gj_J) (h : ((i3 1) = 0 → narrow .byte (.int (i3 1)) = .int (i3 1) ∧ (Q (i3 1) SI SJ)) ∧ (¬ (i3 1) = 0 → narrow .byte (.int (i3 0)) = .int (i3 0) ∧ (Q (i3 0) SI SJ))) : DoI E 290 [(.ref 135)] SI SJ Q := by
  refine gj_start (M := mt_290) ok_290 (Nat.le_of_ble_eq_true rfl) ?_
  refine gj_goq gj_clT ok_290 [] ?_
  show ((i3 1) = 0 → gj_Goes E om0 mt_290 13 [some (.ref 135)] [] SI SJ (QI Q)) ∧ (¬ (i3 1) = 0 → gj_Goes E om0 mt_290 14 [some (.ref 135)] [(.int (i3 0))] SI SJ (QI Q))
  refine ⟨fun c1 => ?_, fun c1 => ?_⟩
  · refine gj_goq gj_clT ok_290 [] ?_
    show narrow .byte (.int (i3 1)) = .int (i3 1) ∧ (QI Q (some (.int (i3 1))) SI SJ)
    have k2 := (h.1 c1).1
    refine ⟨k2, ?_⟩
    exact ⟨_, rfl, (h.1 c1).2⟩
  · refine gj_goq gj_clT ok_290 [] ?_
    show narrow .byte (.int (i3 0)) = .int (i3 0) ∧ (QI Q (some (.int (i3 0))) SI SJ)
    have k3 := (h.2 c1).1
    refine ⟨k3, ?_⟩
    exact ⟨_, rfl, (h.2 c1).2⟩
set_option maxRecDepth 20000 in
/-- java/lang/String.isLatin1 -/
theorem st_291_132 {E : gj_E} {Q : Int32 → gj_I → gj_J → Prop} (SI : gj_I) (SJ : gj_J) (h : ((i3 1) = 0 → Q (i3 0) SI SJ) ∧ (¬ (i3 1) = 0 → (¬ (i3 0) = 0 → Q (i3 0) SI SJ) ∧ ((i3 0) = 0 → Q (i3 1) SI SJ))) : DoI E 291 [(.ref 132)] SI SJ Q := by
  refine gj_start (M := mt_291) ok_291 (Nat.le_of_ble_eq_true rfl) ?_
  refine gj_goq gj_clT ok_291 [] ?_
  show ((i3 1) = 0 → gj_Goes E om0 mt_291 17 [some (.ref 132)] [] SI SJ (QI Q)) ∧ (¬ (i3 1) = 0 → (¬ (i3 0) = 0 → gj_Goes E om0 mt_291 17 [some (.ref 132)] [] SI SJ (QI Q)) ∧ ((i3 0) = 0 → gj_Goes E om0 mt_291 18 [some (.ref 132)] [(.int (i3 1))] SI SJ (QI Q)))
  refine ⟨fun c1 => ?_, fun c1 => ?_⟩
  · refine gj_goq gj_clT ok_291 [] ?_
    show ((i3 0) = 0 ∨ (i3 0) = 1) ∧ (QI Q (some (.int (i3 0))) SI SJ)
    refine ⟨(Or.inl rfl), ?_⟩
    exact ⟨_, rfl, (h.1 c1)⟩
  · refine ⟨fun c2 => ?_, fun c2 => ?_⟩
    · refine gj_goq gj_clT ok_291 [] ?_
      show ((i3 0) = 0 ∨ (i3 0) = 1) ∧ (QI Q (some (.int (i3 0))) SI SJ)
      refine ⟨(Or.inl rfl), ?_⟩
      exact ⟨_, rfl, ((h.2 c1).1 c2)⟩
    · refine gj_goq gj_clT ok_291 [] ?_
      show ((i3 1) = 0 ∨ (i3 1) = 1) ∧ (QI Q (some (.int (i3 1))) SI SJ)
      refine ⟨(Or.inr rfl), ?_⟩
      exact ⟨_, rfl, ((h.2 c1).2 c2)⟩
set_option maxRecDepth 20000 in
theorem st_291_133 {E : gj_E} {Q : Int32 → gj_I → gj_J → Prop} (SI : gj_I) (SJ : gj_J) (h : ((i3 1) = 0 → Q (i3 0) SI SJ) ∧ (¬ (i3 1) = 0 → (¬ (i3 0) = 0 → Q (i3 0) SI SJ) ∧ ((i3 0) = 0 → Q (i3 1) SI SJ))) : DoI E 291 [(.ref 133)] SI SJ Q := by
  refine gj_start (M := mt_291) ok_291 (Nat.le_of_ble_eq_true rfl) ?_
  refine gj_goq gj_clT ok_291 [] ?_
  show ((i3 1) = 0 → gj_Goes E om0 mt_291 17 [some (.ref 133)] [] SI SJ (QI Q)) ∧ (¬ (i3 1) = 0 → (¬ (i3 0) = 0 → gj_Goes E om0 mt_291 17 [some (.ref 133)] [] SI SJ (QI Q)) ∧ ((i3 0) = 0 → gj_Goes E om0 mt_291 18 [some (.ref 133)] [(.int (i3 1))] SI SJ (QI Q)))
  refine ⟨fun c1 => ?_, fun c1 => ?_⟩
  · refine gj_goq gj_clT ok_291 [] ?_
    show ((i3 0) = 0 ∨ (i3 0) = 1) ∧ (QI Q (some (.int (i3 0))) SI SJ)
    refine ⟨(Or.inl rfl), ?_⟩
    exact ⟨_, rfl, (h.1 c1)⟩
  · refine ⟨fun c2 => ?_, fun c2 => ?_⟩
    · refine gj_goq gj_clT ok_291 [] ?_
      show ((i3 0) = 0 ∨ (i3 0) = 1) ∧ (QI Q (some (.int (i3 0))) SI SJ)
      refine ⟨(Or.inl rfl), ?_⟩
      exact ⟨_, rfl, ((h.2 c1).1 c2)⟩
    · refine gj_goq gj_clT ok_291 [] ?_
      show ((i3 1) = 0 ∨ (i3 1) = 1) ∧ (QI Q (some (.int (i3 1))) SI SJ)
      refine ⟨(Or.inr rfl), ?_⟩
      exact ⟨_, rfl, ((h.2 c1).2 c2)⟩
set_option maxRecDepth 20000 in
theorem st_291_134 {E : gj_E} {Q : Int32 → gj_I → gj_J → Prop} (SI : gj_I) (SJ : gj_J) (h : ((i3 1) = 0 → Q (i3 0) SI SJ) ∧ (¬ (i3 1) = 0 → (¬ (i3 0) = 0 → Q (i3 0) SI SJ) ∧ ((i3 0) = 0 → Q (i3 1) SI SJ))) : DoI E 291 [(.ref 134)] SI SJ Q := by
  refine gj_start (M := mt_291) ok_291 (Nat.le_of_ble_eq_true rfl) ?_
  refine gj_goq gj_clT ok_291 [] ?_
  show ((i3 1) = 0 → gj_Goes E om0 mt_291 17 [some (.ref 134)] [] SI SJ (QI Q)) ∧ (¬ (i3 1) = 0 → (¬ (i3 0) = 0 → gj_Goes E om0 mt_291 17 [some (.ref 134)] [] SI SJ (QI Q)) ∧ ((i3 0) = 0 → gj_Goes E om0 mt_291 18 [some (.ref 134)] [(.int (i3 1))] SI SJ (QI Q)))
  refine ⟨fun c1 => ?_, fun c1 => ?_⟩
  · refine gj_goq gj_clT ok_291 [] ?_
    show ((i3 0) = 0 ∨ (i3 0) = 1) ∧ (QI Q (some (.int (i3 0))) SI SJ)
    refine ⟨(Or.inl rfl), ?_⟩
    exact ⟨_, rfl, (h.1 c1)⟩
  · refine ⟨fun c2 => ?_, fun c2 => ?_⟩
    · refine gj_goq gj_clT ok_291 [] ?_
      show ((i3 0) = 0 ∨ (i3 0) = 1) ∧ (QI Q (some (.int (i3 0))) SI SJ)
      refine ⟨(Or.inl rfl), ?_⟩
      exact ⟨_, rfl, ((h.2 c1).1 c2)⟩
    · refine gj_goq gj_clT ok_291 [] ?_
      show ((i3 1) = 0 ∨ (i3 1) = 1) ∧ (QI Q (some (.int (i3 1))) SI SJ)
      refine ⟨(Or.inr rfl), ?_⟩
      exact ⟨_, rfl, ((h.2 c1).2 c2)⟩
set_option maxRecDepth 20000 in
theorem st_291_135 {E : gj_E} {Q : Int32 → gj_I → gj_J → Prop} (SI : gj_I) (SJ : gj_J) (h : ((i3 1) = 0 → Q (i3 0) SI SJ) ∧ (¬ (i3 1) = 0 → (¬ (i3 0) = 0 → Q (i3 0) SI SJ) ∧ ((i3 0) = 0 → Q (i3 1) SI SJ))) : DoI E 291 [(.ref 135)] SI SJ Q := by
  refine gj_start (M := mt_291) ok_291 (Nat.le_of_ble_eq_true rfl) ?_
  refine gj_goq gj_clT ok_291 [] ?_
  show ((i3 1) = 0 → gj_Goes E om0 mt_291 17 [some (.ref 135)] [] SI SJ (QI Q)) ∧ (¬ (i3 1) = 0 → (¬ (i3 0) = 0 → gj_Goes E om0 mt_291 17 [some (.ref 135)] [] SI SJ (QI Q)) ∧ ((i3 0) = 0 → gj_Goes E om0 mt_291 18 [some (.ref 135)] [(.int (i3 1))] SI SJ (QI Q)))
  refine ⟨fun c1 => ?_, fun c1 => ?_⟩
  · refine gj_goq gj_clT ok_291 [] ?_
    show ((i3 0) = 0 ∨ (i3 0) = 1) ∧ (QI Q (some (.int (i3 0))) SI SJ)
    refine ⟨(Or.inl rfl), ?_⟩
    exact ⟨_, rfl, (h.1 c1)⟩
  · refine ⟨fun c2 => ?_, fun c2 => ?_⟩
    · refine gj_goq gj_clT ok_291 [] ?_
      show ((i3 0) = 0 ∨ (i3 0) = 1) ∧ (QI Q (some (.int (i3 0))) SI SJ)
      refine ⟨(Or.inl rfl), ?_⟩
      exact ⟨_, rfl, ((h.2 c1).1 c2)⟩
    · refine gj_goq gj_clT ok_291 [] ?_
      show ((i3 1) = 0 ∨ (i3 1) = 1) ∧ (QI Q (some (.int (i3 1))) SI SJ)
      refine ⟨(Or.inr rfl), ?_⟩
      exact ⟨_, rfl, ((h.2 c1).2 c2)⟩
set_option maxRecDepth 20000 in
/-- java/lang/String.checkIndex -/
theorem st_292 {E : gj_E} {Q : gj_I → gj_J → Prop} (a1 : Int32) (a2 : Int32) (SI : gj_I) (SJ : gj_J) (h : (DoI E 294 [(.int a1), (.int a2), .null] SI SJ (fun r1 SI2 SJ2 => Q SI2 SJ2)) ∧ (DoI E 294 [(.int a1), (.int a2), (.ref 143)] SI SJ (fun r3 SI4 SJ4 => Q SI4 SJ4))) : DoV E 292 [(.int a1), (.int a2)] SI SJ Q := by
  refine gj_start (M := mt_292) ok_292 (Nat.le_of_ble_eq_true rfl) ?_
  refine gj_goq gj_clT ok_292 [8] ?_
  show (gj_Do E om0 (gj_mt 294) [(.int a1), (.int a2), .null] SI SJ _) ∧ (gj_Do E om0 (gj_mt 294) [(.int a1), (.int a2), (.ref 143)] SI SJ _)
  refine ⟨?_, ?_⟩
  · refine gj_Do.mono h.1 (fun v_ SI2 SJ2 h_ => ?_)
    obtain ⟨r1, rfl, q1⟩ := h_
    show gj_Goes E om0 mt_292 8 [some (.int a1), some (.int a2)] [(.int r1)] SI2 SJ2 (QV Q)
    refine gj_goq gj_clT ok_292 [8] ?_
    show QV Q none SI2 SJ2
    exact ⟨rfl, q1⟩
  · refine gj_Do.mono h.2 (fun v_ SI4 SJ4 h_ => ?_)
    obtain ⟨r3, rfl, q2⟩ := h_
    show gj_Goes E om0 mt_292 8 [some (.int a1), some (.int a2)] [(.int r3)] SI4 SJ4 (QV Q)
    refine gj_goq gj_clT ok_292 [8] ?_
    show QV Q none SI4 SJ4
    exact ⟨rfl, q2⟩
set_option maxRecDepth 20000 in
/-- java/lang/StringLatin1.charAt -/
theorem st_293_136 {E : gj_E} {Q : Int32 → gj_I → gj_J → Prop} (a1 : Int32) (SI : gj_I) (SJ : gj_J) (h : DoV E 292 [(.int a1), (.int (i3 3))] SI SJ (fun SI2 SJ2 => vp_in a1 3 ∧ (narrow .char (.int ((((gj_stf E 8 (gj_n a1)) &&& (i3 255))).toUInt32 % 65536).toInt32) = .int ((((gj_stf E 8 (gj_n a1)) &&& (i3 255))).toUInt32 % 65536).toInt32 ∧ (Q ((((gj_stf E 8 (gj_n a1)) &&& (i3 255))).toUInt32 % 65536).toInt32 SI2 SJ2)))) : DoI E 293 [(.ref 136), (.int a1)] SI SJ Q := by
  refine gj_start (M := mt_293) ok_293 (Nat.le_of_ble_eq_true rfl) ?_
  refine gj_goq gj_clT ok_293 [6] ?_
  show gj_Do E om0 (gj_mt 292) [(.int a1), (.int (i3 3))] SI SJ _
  refine gj_Do.mono h (fun v_ SI2 SJ2 h_ => ?_)
  obtain ⟨rfl, q1⟩ := h_
  show gj_Goes E om0 mt_293 6 [some (.ref 136), some (.int a1)] [] SI2 SJ2 (QI Q)
  refine gj_goq gj_clT ok_293 [6] ?_
  show vp_in a1 3 ∧ (narrow .char (.int ((((gj_stf E 8 (gj_n a1)) &&& (i3 255))).toUInt32 % 65536).toInt32) = .int ((((gj_stf E 8 (gj_n a1)) &&& (i3 255))).toUInt32 % 65536).toInt32 ∧ (QI Q (some (.int ((((gj_stf E 8 (gj_n a1)) &&& (i3 255))).toUInt32 % 65536).toInt32)) SI2 SJ2))
  have k2 := q1.1
  refine ⟨k2, ?_⟩
  have k3 := q1.2.1
  refine ⟨k3, ?_⟩
  exact ⟨_, rfl, q1.2.2⟩
set_option maxRecDepth 20000 in
theorem st_293_137 {E : gj_E} {Q : Int32 → gj_I → gj_J → Prop} (a1 : Int32) (SI : gj_I) (SJ : gj_J) (h : DoV E 292 [(.int a1), (.int (i3 4))] SI SJ (fun SI2 SJ2 => vp_in a1 4 ∧ (narrow .char (.int ((((gj_stf E 9 (gj_n a1)) &&& (i3 255))).toUInt32 % 65536).toInt32) = .int ((((gj_stf E 9 (gj_n a1)) &&& (i3 255))).toUInt32 % 65536).toInt32 ∧ (Q ((((gj_stf E 9 (gj_n a1)) &&& (i3 255))).toUInt32 % 65536).toInt32 SI2 SJ2)))) : DoI E 293 [(.ref 137), (.int a1)] SI SJ Q := by
  refine gj_start (M := mt_293) ok_293 (Nat.le_of_ble_eq_true rfl) ?_
  refine gj_goq gj_clT ok_293 [6] ?_
  show gj_Do E om0 (gj_mt 292) [(.int a1), (.int (i3 4))] SI SJ _
  refine gj_Do.mono h (fun v_ SI2 SJ2 h_ => ?_)
  obtain ⟨rfl, q1⟩ := h_
  show gj_Goes E om0 mt_293 6 [some (.ref 137), some (.int a1)] [] SI2 SJ2 (QI Q)
  refine gj_goq gj_clT ok_293 [6] ?_
  show vp_in a1 4 ∧ (narrow .char (.int ((((gj_stf E 9 (gj_n a1)) &&& (i3 255))).toUInt32 % 65536).toInt32) = .int ((((gj_stf E 9 (gj_n a1)) &&& (i3 255))).toUInt32 % 65536).toInt32 ∧ (QI Q (some (.int ((((gj_stf E 9 (gj_n a1)) &&& (i3 255))).toUInt32 % 65536).toInt32)) SI2 SJ2))
  have k2 := q1.1
  refine ⟨k2, ?_⟩
  have k3 := q1.2.1
  refine ⟨k3, ?_⟩
  exact ⟨_, rfl, q1.2.2⟩
set_option maxRecDepth 20000 in
theorem st_293_138 {E : gj_E} {Q : Int32 → gj_I → gj_J → Prop} (a1 : Int32) (SI : gj_I) (SJ : gj_J) (h : DoV E 292 [(.int a1), (.int (i3 5))] SI SJ (fun SI2 SJ2 => vp_in a1 5 ∧ (narrow .char (.int ((((gj_stf E 10 (gj_n a1)) &&& (i3 255))).toUInt32 % 65536).toInt32) = .int ((((gj_stf E 10 (gj_n a1)) &&& (i3 255))).toUInt32 % 65536).toInt32 ∧ (Q ((((gj_stf E 10 (gj_n a1)) &&& (i3 255))).toUInt32 % 65536).toInt32 SI2 SJ2)))) : DoI E 293 [(.ref 138), (.int a1)] SI SJ Q := by
  refine gj_start (M := mt_293) ok_293 (Nat.le_of_ble_eq_true rfl) ?_
  refine gj_goq gj_clT ok_293 [6] ?_
  show gj_Do E om0 (gj_mt 292) [(.int a1), (.int (i3 5))] SI SJ _
  refine gj_Do.mono h (fun v_ SI2 SJ2 h_ => ?_)
  obtain ⟨rfl, q1⟩ := h_
  show gj_Goes E om0 mt_293 6 [some (.ref 138), some (.int a1)] [] SI2 SJ2 (QI Q)
  refine gj_goq gj_clT ok_293 [6] ?_
  show vp_in a1 5 ∧ (narrow .char (.int ((((gj_stf E 10 (gj_n a1)) &&& (i3 255))).toUInt32 % 65536).toInt32) = .int ((((gj_stf E 10 (gj_n a1)) &&& (i3 255))).toUInt32 % 65536).toInt32 ∧ (QI Q (some (.int ((((gj_stf E 10 (gj_n a1)) &&& (i3 255))).toUInt32 % 65536).toInt32)) SI2 SJ2))
  have k2 := q1.1
  refine ⟨k2, ?_⟩
  have k3 := q1.2.1
  refine ⟨k3, ?_⟩
  exact ⟨_, rfl, q1.2.2⟩
set_option maxRecDepth 20000 in
theorem st_293_139 {E : gj_E} {Q : Int32 → gj_I → gj_J → Prop} (a1 : Int32) (SI : gj_I) (SJ : gj_J) (h : DoV E 292 [(.int a1), (.int (i3 6))] SI SJ (fun SI2 SJ2 => vp_in a1 6 ∧ (narrow .char (.int ((((gj_stf E 11 (gj_n a1)) &&& (i3 255))).toUInt32 % 65536).toInt32) = .int ((((gj_stf E 11 (gj_n a1)) &&& (i3 255))).toUInt32 % 65536).toInt32 ∧ (Q ((((gj_stf E 11 (gj_n a1)) &&& (i3 255))).toUInt32 % 65536).toInt32 SI2 SJ2)))) : DoI E 293 [(.ref 139), (.int a1)] SI SJ Q := by
  refine gj_start (M := mt_293) ok_293 (Nat.le_of_ble_eq_true rfl) ?_
  refine gj_goq gj_clT ok_293 [6] ?_
  show gj_Do E om0 (gj_mt 292) [(.int a1), (.int (i3 6))] SI SJ _
  refine gj_Do.mono h (fun v_ SI2 SJ2 h_ => ?_)
  obtain ⟨rfl, q1⟩ := h_
  show gj_Goes E om0 mt_293 6 [some (.ref 139), some (.int a1)] [] SI2 SJ2 (QI Q)
  refine gj_goq gj_clT ok_293 [6] ?_
  show vp_in a1 6 ∧ (narrow .char (.int ((((gj_stf E 11 (gj_n a1)) &&& (i3 255))).toUInt32 % 65536).toInt32) = .int ((((gj_stf E 11 (gj_n a1)) &&& (i3 255))).toUInt32 % 65536).toInt32 ∧ (QI Q (some (.int ((((gj_stf E 11 (gj_n a1)) &&& (i3 255))).toUInt32 % 65536).toInt32)) SI2 SJ2))
  have k2 := q1.1
  refine ⟨k2, ?_⟩
  have k3 := q1.2.1
  refine ⟨k3, ?_⟩
  exact ⟨_, rfl, q1.2.2⟩
set_option maxRecDepth 20000 in
/-- jdk/internal/util/Preconditions.checkIndex -/
theorem st_294 {E : gj_E} {Q : Int32 → gj_I → gj_J → Prop} (a1 : Int32) (a2 : Int32) (SI : gj_I) (SJ : gj_J) (h : (a1 < 0 → False) ∧ (¬ a1 < 0 → (a1 < a2 → Q a1 SI SJ) ∧ (¬ a1 < a2 → False))) : DoI E 294 [(.int a1), (.int a2), (.ref 143)] SI SJ Q := by
  refine gj_start (M := mt_294) ok_294 (Nat.le_of_ble_eq_true rfl) ?_
  refine gj_goq gj_clT ok_294 [] ?_
  show (a1 < 0 → gj_Goes E om0 mt_294 9 [some (.int a1), some (.int a2), some (.ref 143)] [] SI SJ (QI Q)) ∧ (¬ a1 < 0 → (a1 < a2 → gj_Goes E om0 mt_294 16 [some (.int a1), some (.int a2), some (.ref 143)] [] SI SJ (QI Q)) ∧ (¬ a1 < a2 → False))
  refine ⟨fun c1 => ?_, fun c1 => ?_⟩
  · refine gj_goq gj_clT ok_294 [] ?_
    show False
    exact (h.1 c1).elim
  · refine ⟨fun c2 => ?_, fun c2 => ?_⟩
    · refine gj_goq gj_clT ok_294 [] ?_
      show QI Q (some (.int a1)) SI SJ
      exact ⟨_, rfl, ((h.2 c1).1 c2)⟩
    · exact ((h.2 c1).2 c2).elim
