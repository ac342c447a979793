/-! 23.vcC: what the machine asks of each method, from its entry (st_) and from each loop head (lp_): printed by a program, checked by the kernel -/
set_option maxRecDepth 20000 in
/-- GraspJudge.feed -/
theorem st_91 {E : gj_E} {Q : Int32 → gj_I → gj_J → Prop} (a1 : Int32) (a2 : Int32) (a3 : Int32) (a4 : Int32) (a5 : Int32) (SI : gj_I) (SJ : gj_J) (h : (((SI 1 1) + (i3 20)) ≤ (i3 240) → DoV E 68 [(.ref 1), (.int a1)] SI SJ (fun SI2 SJ2 => DoV E 68 [(.ref 1), (.int a2)] SI2 SJ2 (fun SI4 SJ4 => DoV E 68 [(.ref 1), (.int a3)] SI4 SJ4 (fun SI6 SJ6 => DoV E 68 [(.ref 1), (.int a4)] SI6 SJ6 (fun SI8 SJ8 => DoV E 68 [(.ref 1), (.int a5)] SI8 SJ8 (fun SI10 SJ10 => Q (SI10 1 1) SI10 SJ10)))))) ∧ (¬ ((SI 1 1) + (i3 20)) ≤ (i3 240) → Q (i3 (-1)) SI SJ)) : DoI E 91 [(.ref 0), (.int a1), (.int a2), (.int a3), (.int a4), (.int a5)] SI SJ Q := by
  refine gj_start (M := mt_91) ok_91 (Nat.le_of_ble_eq_true rfl) ?_
  refine gj_goq gj_clT ok_91 [26, 34, 42, 51, 60] ?_
  show (((SI 1 1) + (i3 20)) ≤ (i3 240) → gj_Goes E om0 mt_91 18 [some (.ref 0), some (.int a1), some (.int a2), some (.int a3), some (.int a4), some (.int a5)] [] SI SJ (QI Q)) ∧ (¬ ((SI 1 1) + (i3 20)) ≤ (i3 240) → QI Q (some (.int (i3 (-1)))) SI SJ)
  refine ⟨fun c1 => ?_, fun c1 => ?_⟩
  · refine gj_goq gj_clT ok_91 [26, 34, 42, 51, 60] ?_
    show gj_Do E om0 (gj_mt 68) [(.ref 1), (.int a1)] SI SJ _
    refine gj_Do.mono (h.1 c1) (fun v_ SI2 SJ2 h_ => ?_)
    obtain ⟨rfl, q2⟩ := h_
    show gj_Goes E om0 mt_91 26 [some (.ref 0), some (.int a1), some (.int a2), some (.int a3), some (.int a4), some (.int a5)] [] SI2 SJ2 (QI Q)
    refine gj_goq gj_clT ok_91 [26, 34, 42, 51, 60] ?_
    show gj_Do E om0 (gj_mt 68) [(.ref 1), (.int a2)] SI2 SJ2 _
    refine gj_Do.mono q2 (fun v_ SI4 SJ4 h_ => ?_)
    obtain ⟨rfl, q3⟩ := h_
    show gj_Goes E om0 mt_91 34 [some (.ref 0), some (.int a1), some (.int a2), some (.int a3), some (.int a4), some (.int a5)] [] SI4 SJ4 (QI Q)
    refine gj_goq gj_clT ok_91 [26, 34, 42, 51, 60] ?_
    show gj_Do E om0 (gj_mt 68) [(.ref 1), (.int a3)] SI4 SJ4 _
    refine gj_Do.mono q3 (fun v_ SI6 SJ6 h_ => ?_)
    obtain ⟨rfl, q4⟩ := h_
    show gj_Goes E om0 mt_91 42 [some (.ref 0), some (.int a1), some (.int a2), some (.int a3), some (.int a4), some (.int a5)] [] SI6 SJ6 (QI Q)
    refine gj_goq gj_clT ok_91 [26, 34, 42, 51, 60] ?_
    show gj_Do E om0 (gj_mt 68) [(.ref 1), (.int a4)] SI6 SJ6 _
    refine gj_Do.mono q4 (fun v_ SI8 SJ8 h_ => ?_)
    obtain ⟨rfl, q5⟩ := h_
    show gj_Goes E om0 mt_91 51 [some (.ref 0), some (.int a1), some (.int a2), some (.int a3), some (.int a4), some (.int a5)] [] SI8 SJ8 (QI Q)
    refine gj_goq gj_clT ok_91 [26, 34, 42, 51, 60] ?_
    show gj_Do E om0 (gj_mt 68) [(.ref 1), (.int a5)] SI8 SJ8 _
    refine gj_Do.mono q5 (fun v_ SI10 SJ10 h_ => ?_)
    obtain ⟨rfl, q6⟩ := h_
    show gj_Goes E om0 mt_91 60 [some (.ref 0), some (.int a1), some (.int a2), some (.int a3), some (.int a4), some (.int a5)] [] SI10 SJ10 (QI Q)
    refine gj_goq gj_clT ok_91 [26, 34, 42, 51, 60] ?_
    show QI Q (some (.int (SI10 1 1))) SI10 SJ10
    exact ⟨_, rfl, q6⟩
  · exact ⟨_, rfl, (h.2 c1)⟩
set_option maxRecDepth 20000 in
/-- GraspJudge.plate -/
theorem st_92 {E : gj_E} {Q : Int32 → gj_I → gj_J → Prop} (a1 : Int32) (SI : gj_I) (SJ : gj_J) (h : DoI E 69 [(.ref 1), (.int a1), (.int (i3 1)), (.int (i3 60))] SI SJ (fun r1 SI2 SJ2 => (¬ r1 = 0 → DoV E 70 [(.ref 1), (.int a1)] SI2 SJ2 (fun SI4 SJ4 => DoI E 34 [(.ref 29), (.ref 1)] SI4 SJ4 (fun r5 SI6 SJ6 => DoV E 71 [(.ref 1)] SI6 SJ6 (fun SI8 SJ8 => (0 ≤ r5 → DoV E 61 [(.ref 3), (.ref 29)] SI8 SJ8 (fun SI10 SJ10 => DoV E 114 [(.ref 0)] SI10 SJ10 (fun SI12 SJ12 => Q (SI12 4 7) SI12 SJ12))) ∧ (¬ 0 ≤ r5 → Q r5 SI8 SJ8))))) ∧ (r1 = 0 → Q (i3 (-1)) SI2 SJ2))) : DoI E 92 [(.ref 0), (.int a1)] SI SJ Q := by
  refine gj_start (M := mt_92) ok_92 (Nat.le_of_ble_eq_true rfl) ?_
  refine gj_goq gj_clT ok_92 [11, 24, 35, 43, 60, 64] ?_
  show gj_Do E om0 (gj_mt 69) [(.ref 1), (.int a1), (.int (i3 1)), (.int (i3 60))] SI SJ _
  refine gj_Do.mono h (fun v_ SI2 SJ2 h_ => ?_)
  obtain ⟨r1, rfl, q1⟩ := h_
  show gj_Goes E om0 mt_92 11 [some (.ref 0), some (.int a1), none] [(.int r1)] SI2 SJ2 (QI Q)
  refine gj_goq gj_clT ok_92 [11, 24, 35, 43, 60, 64] ?_
  show (¬ r1 = 0 → gj_Goes E om0 mt_92 16 [some (.ref 0), some (.int a1), none] [] SI2 SJ2 (QI Q)) ∧ (r1 = 0 → QI Q (some (.int (i3 (-1)))) SI2 SJ2)
  refine ⟨fun c2 => ?_, fun c2 => ?_⟩
  · refine gj_goq gj_clT ok_92 [11, 24, 35, 43, 60, 64] ?_
    show gj_Do E om0 (gj_mt 70) [(.ref 1), (.int a1)] SI2 SJ2 _
    refine gj_Do.mono (q1.1 c2) (fun v_ SI4 SJ4 h_ => ?_)
    obtain ⟨rfl, q3⟩ := h_
    show gj_Goes E om0 mt_92 24 [some (.ref 0), some (.int a1), none] [] SI4 SJ4 (QI Q)
    refine gj_goq gj_clT ok_92 [11, 24, 35, 43, 60, 64] ?_
    show gj_Do E om0 (gj_mt 34) [(.ref 29), (.ref 1)] SI4 SJ4 _
    refine gj_Do.mono q3 (fun v_ SI6 SJ6 h_ => ?_)
    obtain ⟨r5, rfl, q4⟩ := h_
    show gj_Goes E om0 mt_92 35 [some (.ref 0), some (.int a1), none] [(.int r5)] SI6 SJ6 (QI Q)
    refine gj_goq gj_clT ok_92 [11, 24, 35, 43, 60, 64] ?_
    show gj_Do E om0 (gj_mt 71) [(.ref 1)] SI6 SJ6 _
    refine gj_Do.mono q4 (fun v_ SI8 SJ8 h_ => ?_)
    obtain ⟨rfl, q5⟩ := h_
    show gj_Goes E om0 mt_92 43 [some (.ref 0), some (.int a1), some (.int r5)] [] SI8 SJ8 (QI Q)
    refine gj_goq gj_clT ok_92 [11, 24, 35, 43, 60, 64] ?_
    show (0 ≤ r5 → gj_Goes E om0 mt_92 49 [some (.ref 0), some (.int a1), some (.int r5)] [] SI8 SJ8 (QI Q)) ∧ (¬ 0 ≤ r5 → QI Q (some (.int r5)) SI8 SJ8)
    refine ⟨fun c6 => ?_, fun c6 => ?_⟩
    · refine gj_goq gj_clT ok_92 [11, 24, 35, 43, 60, 64] ?_
      show gj_Do E om0 (gj_mt 61) [(.ref 3), (.ref 29)] SI8 SJ8 _
      refine gj_Do.mono (q5.1 c6) (fun v_ SI10 SJ10 h_ => ?_)
      obtain ⟨rfl, q7⟩ := h_
      show gj_Goes E om0 mt_92 60 [some (.ref 0), some (.int a1), some (.int r5)] [] SI10 SJ10 (QI Q)
      refine gj_goq gj_clT ok_92 [11, 24, 35, 43, 60, 64] ?_
      show gj_Do E om0 (gj_mt 114) [(.ref 0)] SI10 SJ10 _
      refine gj_Do.mono q7 (fun v_ SI12 SJ12 h_ => ?_)
      obtain ⟨rfl, q8⟩ := h_
      show gj_Goes E om0 mt_92 64 [some (.ref 0), some (.int a1), some (.int r5)] [] SI12 SJ12 (QI Q)
      refine gj_goq gj_clT ok_92 [11, 24, 35, 43, 60, 64] ?_
      show QI Q (some (.int (SI12 4 7))) SI12 SJ12
      exact ⟨_, rfl, q8⟩
    · exact ⟨_, rfl, (q5.2 c6)⟩
  · exact ⟨_, rfl, (q1.2 c2)⟩
set_option maxRecDepth 20000 in
/-- GraspJudge.orders -/
theorem st_93 {E : gj_E} {Q : Int32 → gj_I → gj_J → Prop} (a1 : Int32) (SI : gj_I) (SJ : gj_J) (h : DoI E 69 [(.ref 1), (.int a1), (.int (i3 1)), (.int (i3 120))] SI SJ (fun r1 SI2 SJ2 => (¬ r1 = 0 → DoV E 70 [(.ref 1), (.int a1)] SI2 SJ2 (fun SI4 SJ4 => DoI E 23 [(.ref 37), (.ref 1)] SI4 SJ4 (fun r5 SI6 SJ6 => DoV E 71 [(.ref 1)] SI6 SJ6 (fun SI8 SJ8 => (0 ≤ r5 → GoI E mt_93 51 [some (.ref 0), none, none, some (.int (i3 0))] SI8 SJ8 Q) ∧ (¬ 0 ≤ r5 → Q r5 SI8 SJ8))))) ∧ (r1 = 0 → Q (i3 (-1)) SI2 SJ2))) : DoI E 93 [(.ref 0), (.int a1)] SI SJ Q := by
  refine gj_start (M := mt_93) ok_93 (Nat.le_of_ble_eq_true rfl) ?_
  refine gj_goq gj_clT ok_93 [11, 24, 35, 43, 51, 67] ?_
  show gj_Do E om0 (gj_mt 69) [(.ref 1), (.int a1), (.int (i3 1)), (.int (i3 120))] SI SJ _
  refine gj_Do.mono h (fun v_ SI2 SJ2 h_ => ?_)
  obtain ⟨r1, rfl, q1⟩ := h_
  show gj_Goes E om0 mt_93 11 [some (.ref 0), some (.int a1), none, none] [(.int r1)] SI2 SJ2 (QI Q)
  refine gj_goq gj_clT ok_93 [11, 24, 35, 43, 51, 67] ?_
  show (¬ r1 = 0 → gj_Goes E om0 mt_93 16 [some (.ref 0), some (.int a1), none, none] [] SI2 SJ2 (QI Q)) ∧ (r1 = 0 → QI Q (some (.int (i3 (-1)))) SI2 SJ2)
  refine ⟨fun c2 => ?_, fun c2 => ?_⟩
  · refine gj_goq gj_clT ok_93 [11, 24, 35, 43, 51, 67] ?_
    show gj_Do E om0 (gj_mt 70) [(.ref 1), (.int a1)] SI2 SJ2 _
    refine gj_Do.mono (q1.1 c2) (fun v_ SI4 SJ4 h_ => ?_)
    obtain ⟨rfl, q3⟩ := h_
    show gj_Goes E om0 mt_93 24 [some (.ref 0), some (.int a1), none, none] [] SI4 SJ4 (QI Q)
    refine gj_goq gj_clT ok_93 [11, 24, 35, 43, 51, 67] ?_
    show gj_Do E om0 (gj_mt 23) [(.ref 37), (.ref 1)] SI4 SJ4 _
    refine gj_Do.mono q3 (fun v_ SI6 SJ6 h_ => ?_)
    obtain ⟨r5, rfl, q4⟩ := h_
    show gj_Goes E om0 mt_93 35 [some (.ref 0), some (.int a1), none, none] [(.int r5)] SI6 SJ6 (QI Q)
    refine gj_goq gj_clT ok_93 [11, 24, 35, 43, 51, 67] ?_
    show gj_Do E om0 (gj_mt 71) [(.ref 1)] SI6 SJ6 _
    refine gj_Do.mono q4 (fun v_ SI8 SJ8 h_ => ?_)
    obtain ⟨rfl, q5⟩ := h_
    show gj_Goes E om0 mt_93 43 [some (.ref 0), some (.int a1), some (.int r5), none] [] SI8 SJ8 (QI Q)
    refine gj_goq gj_clT ok_93 [11, 24, 35, 43, 51, 67] ?_
    show (0 ≤ r5 → gj_Goes E om0 mt_93 49 [some (.ref 0), some (.int a1), some (.int r5), none] [] SI8 SJ8 (QI Q)) ∧ (¬ 0 ≤ r5 → QI Q (some (.int r5)) SI8 SJ8)
    refine ⟨fun c6 => ?_, fun c6 => ?_⟩
    · refine gj_goq gj_clT ok_93 [11, 24, 35, 43, 51, 67] ?_
      show gj_Goes E om0 mt_93 51 [some (.ref 0), some (.int a1), some (.int r5), some (.int (i3 0))] [] SI8 SJ8 (QI Q)
      exact gj_fh (q5.1 c6) (And.intro (Or.inr rfl) (And.intro (Or.inl rfl) (And.intro (Or.inl rfl) (And.intro (Or.inr rfl) trivial))))
    · exact ⟨_, rfl, (q5.2 c6)⟩
  · exact ⟨_, rfl, (q1.2 c2)⟩
set_option maxRecDepth 20000 in
theorem lp_93_51 {E : gj_E} {Q : Int32 → gj_I → gj_J → Prop} (x3 : Int32) (SI : gj_I) (SJ : gj_J) (h : ((SI 37 3) ≤ x3 → Q x3 SI SJ) ∧ (¬ (SI 37 3) ≤ x3 → DoI E 94 [(.ref 0), (.int x3)] SI SJ (fun r1 SI2 SJ2 => (r1 = 0 → Q x3 SI2 SJ2) ∧ (¬ r1 = 0 → GoI E mt_93 51 [some (.ref 0), none, none, some (.int (x3 + (i3 1)))] SI2 SJ2 Q)))) : GoI E mt_93 51 [some (.ref 0), none, none, some (.int x3)] SI SJ Q := by
  refine gj_goq gj_clT ok_93 [11, 24, 35, 43, 51, 67] ?_
  show ((SI 37 3) ≤ x3 → gj_Goes E om0 mt_93 76 [some (.ref 0), none, none, some (.int x3)] [] SI SJ (QI Q)) ∧ (¬ (SI 37 3) ≤ x3 → gj_Do E om0 (gj_mt 94) [(.ref 0), (.int x3)] SI SJ _)
  refine ⟨fun c1 => ?_, fun c1 => ?_⟩
  · refine gj_goq gj_clT ok_93 [11, 24, 35, 43, 51, 67] ?_
    show QI Q (some (.int x3)) SI SJ
    exact ⟨_, rfl, (h.1 c1)⟩
  · refine gj_Do.mono (h.2 c1) (fun v_ SI2 SJ2 h_ => ?_)
    obtain ⟨r1, rfl, q2⟩ := h_
    show gj_Goes E om0 mt_93 67 [some (.ref 0), none, none, some (.int x3)] [(.int r1)] SI2 SJ2 (QI Q)
    refine gj_goq gj_clT ok_93 [11, 24, 35, 43, 51, 67] ?_
    show (r1 = 0 → gj_Goes E om0 mt_93 76 [some (.ref 0), none, none, some (.int x3)] [] SI2 SJ2 (QI Q)) ∧ (¬ r1 = 0 → gj_Goes E om0 mt_93 51 [some (.ref 0), none, none, some (.int (x3 + (i3 1)))] [] SI2 SJ2 (QI Q))
    refine ⟨fun c3 => ?_, fun c3 => ?_⟩
    · refine gj_goq gj_clT ok_93 [11, 24, 35, 43, 51, 67] ?_
      show QI Q (some (.int x3)) SI2 SJ2
      exact ⟨_, rfl, (q2.1 c3)⟩
    · exact (q2.2 c3)
set_option maxRecDepth 20000 in
/-- GraspJudge.perform -/
theorem st_94 {E : gj_E} {Q : Int32 → gj_I → gj_J → Prop} (a1 : Int32) (SI : gj_I) (SJ : gj_J) (h : vp_in a1 12 ∧ (((SI 38 (gj_n a1)) = (i3 0) → DoI E 101 [(.ref 0), (.int (SI 39 (gj_n a1))), (.int (SI 40 (gj_n a1)))] SI SJ (fun r1 SI2 SJ2 => (r1 < 0 → Q (i3 0) SI2 SJ2) ∧ (¬ r1 < 0 → Q (i3 1) SI2 SJ2))) ∧ ((SI 38 (gj_n a1)) = (i3 1) → DoI E 103 [(.ref 0), (.int (SI 39 (gj_n a1)))] SI SJ (fun r3 SI4 SJ4 => (r3 < 0 → Q (i3 0) SI4 SJ4) ∧ (¬ r3 < 0 → Q (i3 1) SI4 SJ4))) ∧ ((SI 38 (gj_n a1)) = (i3 2) → DoI E 105 [(.ref 0), (.int (SI 39 (gj_n a1))), (.int (SI 40 (gj_n a1)))] SI SJ (fun r5 SI6 SJ6 => (r5 < 0 → Q (i3 0) SI6 SJ6) ∧ (¬ r5 < 0 → Q (i3 1) SI6 SJ6))) ∧ ((SI 38 (gj_n a1)).toInt < 0 ∨ 2 < (SI 38 (gj_n a1)).toInt → DoI E 107 [(.ref 0), (.int (SI 39 (gj_n a1))), (.int (SI 40 (gj_n a1)))] SI SJ (fun r7 SI8 SJ8 => (r7 < 0 → Q (i3 0) SI8 SJ8) ∧ (¬ r7 < 0 → Q (i3 1) SI8 SJ8))))) : DoI E 94 [(.ref 0), (.int a1)] SI SJ Q := by
  refine gj_start (M := mt_94) ok_94 (Nat.le_of_ble_eq_true rfl) ?_
  refine gj_goq gj_clT ok_94 [62, 76, 91, 106] ?_
  show vp_in a1 12 ∧ (vp_in a1 12 ∧ (vp_in a1 12 ∧ ((((SI 38 (gj_n a1)) = Int32.ofInt (0) → gj_Goes E om0 mt_94 56 [some (.ref 0), some (.int a1), some (.int (SI 39 (gj_n a1))), some (.int (SI 40 (gj_n a1)))] [] SI SJ (QI Q)) ∧ ((SI 38 (gj_n a1)) = Int32.ofInt (1) → gj_Goes E om0 mt_94 71 [some (.ref 0), some (.int a1), some (.int (SI 39 (gj_n a1))), some (.int (SI 40 (gj_n a1)))] [] SI SJ (QI Q)) ∧ ((SI 38 (gj_n a1)) = Int32.ofInt (2) → gj_Goes E om0 mt_94 85 [some (.ref 0), some (.int a1), some (.int (SI 39 (gj_n a1))), some (.int (SI 40 (gj_n a1)))] [] SI SJ (QI Q)) ∧ True) ∧ ((SI 38 (gj_n a1)).toInt < 0 ∨ 2 < (SI 38 (gj_n a1)).toInt → gj_Goes E om0 mt_94 100 [some (.ref 0), some (.int a1), some (.int (SI 39 (gj_n a1))), some (.int (SI 40 (gj_n a1)))] [] SI SJ (QI Q)))))
  have k1 := h.1
  refine ⟨k1, ?_⟩
  refine ⟨k1, ?_⟩
  refine ⟨k1, ?_⟩
  refine ⟨⟨fun c2 => ?_, ⟨fun c2 => ?_, ⟨fun c2 => ?_, trivial⟩⟩⟩, fun c2 => ?_⟩
  · refine gj_goq gj_clT ok_94 [62, 76, 91, 106] ?_
    show gj_Do E om0 (gj_mt 101) [(.ref 0), (.int (SI 39 (gj_n a1))), (.int (SI 40 (gj_n a1)))] SI SJ _
    refine gj_Do.mono (h.2.1 c2) (fun v_ SI2 SJ2 h_ => ?_)
    obtain ⟨r1, rfl, q3⟩ := h_
    show gj_Goes E om0 mt_94 62 [some (.ref 0), some (.int a1), some (.int (SI 39 (gj_n a1))), some (.int (SI 40 (gj_n a1)))] [(.int r1)] SI2 SJ2 (QI Q)
    refine gj_goq gj_clT ok_94 [62, 76, 91, 106] ?_
    show (r1 < 0 → gj_Goes E om0 mt_94 69 [some (.ref 0), some (.int a1), some (.int (SI 39 (gj_n a1))), some (.int (SI 40 (gj_n a1)))] [] SI2 SJ2 (QI Q)) ∧ (¬ r1 < 0 → gj_Goes E om0 mt_94 70 [some (.ref 0), some (.int a1), some (.int (SI 39 (gj_n a1))), some (.int (SI 40 (gj_n a1)))] [(.int (i3 1))] SI2 SJ2 (QI Q))
    refine ⟨fun c4 => ?_, fun c4 => ?_⟩
    · refine gj_goq gj_clT ok_94 [62, 76, 91, 106] ?_
      show ((i3 0) = 0 ∨ (i3 0) = 1) ∧ (QI Q (some (.int (i3 0))) SI2 SJ2)
      refine ⟨(Or.inl rfl), ?_⟩
      exact ⟨_, rfl, (q3.1 c4)⟩
    · refine gj_goq gj_clT ok_94 [62, 76, 91, 106] ?_
      show ((i3 1) = 0 ∨ (i3 1) = 1) ∧ (QI Q (some (.int (i3 1))) SI2 SJ2)
      refine ⟨(Or.inr rfl), ?_⟩
      exact ⟨_, rfl, (q3.2 c4)⟩
  · refine gj_goq gj_clT ok_94 [62, 76, 91, 106] ?_
    show gj_Do E om0 (gj_mt 103) [(.ref 0), (.int (SI 39 (gj_n a1)))] SI SJ _
    refine gj_Do.mono (h.2.2.1 c2) (fun v_ SI4 SJ4 h_ => ?_)
    obtain ⟨r3, rfl, q5⟩ := h_
    show gj_Goes E om0 mt_94 76 [some (.ref 0), some (.int a1), some (.int (SI 39 (gj_n a1))), some (.int (SI 40 (gj_n a1)))] [(.int r3)] SI4 SJ4 (QI Q)
    refine gj_goq gj_clT ok_94 [62, 76, 91, 106] ?_
    show (r3 < 0 → gj_Goes E om0 mt_94 83 [some (.ref 0), some (.int a1), some (.int (SI 39 (gj_n a1))), some (.int (SI 40 (gj_n a1)))] [] SI4 SJ4 (QI Q)) ∧ (¬ r3 < 0 → gj_Goes E om0 mt_94 84 [some (.ref 0), some (.int a1), some (.int (SI 39 (gj_n a1))), some (.int (SI 40 (gj_n a1)))] [(.int (i3 1))] SI4 SJ4 (QI Q))
    refine ⟨fun c6 => ?_, fun c6 => ?_⟩
    · refine gj_goq gj_clT ok_94 [62, 76, 91, 106] ?_
      show ((i3 0) = 0 ∨ (i3 0) = 1) ∧ (QI Q (some (.int (i3 0))) SI4 SJ4)
      refine ⟨(Or.inl rfl), ?_⟩
      exact ⟨_, rfl, (q5.1 c6)⟩
    · refine gj_goq gj_clT ok_94 [62, 76, 91, 106] ?_
      show ((i3 1) = 0 ∨ (i3 1) = 1) ∧ (QI Q (some (.int (i3 1))) SI4 SJ4)
      refine ⟨(Or.inr rfl), ?_⟩
      exact ⟨_, rfl, (q5.2 c6)⟩
  · refine gj_goq gj_clT ok_94 [62, 76, 91, 106] ?_
    show gj_Do E om0 (gj_mt 105) [(.ref 0), (.int (SI 39 (gj_n a1))), (.int (SI 40 (gj_n a1)))] SI SJ _
    refine gj_Do.mono (h.2.2.2.1 c2) (fun v_ SI6 SJ6 h_ => ?_)
    obtain ⟨r5, rfl, q7⟩ := h_
    show gj_Goes E om0 mt_94 91 [some (.ref 0), some (.int a1), some (.int (SI 39 (gj_n a1))), some (.int (SI 40 (gj_n a1)))] [(.int r5)] SI6 SJ6 (QI Q)
    refine gj_goq gj_clT ok_94 [62, 76, 91, 106] ?_
    show (r5 < 0 → gj_Goes E om0 mt_94 98 [some (.ref 0), some (.int a1), some (.int (SI 39 (gj_n a1))), some (.int (SI 40 (gj_n a1)))] [] SI6 SJ6 (QI Q)) ∧ (¬ r5 < 0 → gj_Goes E om0 mt_94 99 [some (.ref 0), some (.int a1), some (.int (SI 39 (gj_n a1))), some (.int (SI 40 (gj_n a1)))] [(.int (i3 1))] SI6 SJ6 (QI Q))
    refine ⟨fun c8 => ?_, fun c8 => ?_⟩
    · refine gj_goq gj_clT ok_94 [62, 76, 91, 106] ?_
      show ((i3 0) = 0 ∨ (i3 0) = 1) ∧ (QI Q (some (.int (i3 0))) SI6 SJ6)
      refine ⟨(Or.inl rfl), ?_⟩
      exact ⟨_, rfl, (q7.1 c8)⟩
    · refine gj_goq gj_clT ok_94 [62, 76, 91, 106] ?_
      show ((i3 1) = 0 ∨ (i3 1) = 1) ∧ (QI Q (some (.int (i3 1))) SI6 SJ6)
      refine ⟨(Or.inr rfl), ?_⟩
      exact ⟨_, rfl, (q7.2 c8)⟩
  · refine gj_goq gj_clT ok_94 [62, 76, 91, 106] ?_
    show gj_Do E om0 (gj_mt 107) [(.ref 0), (.int (SI 39 (gj_n a1))), (.int (SI 40 (gj_n a1)))] SI SJ _
    refine gj_Do.mono (h.2.2.2.2 c2) (fun v_ SI8 SJ8 h_ => ?_)
    obtain ⟨r7, rfl, q9⟩ := h_
    show gj_Goes E om0 mt_94 106 [some (.ref 0), some (.int a1), some (.int (SI 39 (gj_n a1))), some (.int (SI 40 (gj_n a1)))] [(.int r7)] SI8 SJ8 (QI Q)
    refine gj_goq gj_clT ok_94 [62, 76, 91, 106] ?_
    show (r7 < 0 → gj_Goes E om0 mt_94 113 [some (.ref 0), some (.int a1), some (.int (SI 39 (gj_n a1))), some (.int (SI 40 (gj_n a1)))] [] SI8 SJ8 (QI Q)) ∧ (¬ r7 < 0 → gj_Goes E om0 mt_94 114 [some (.ref 0), some (.int a1), some (.int (SI 39 (gj_n a1))), some (.int (SI 40 (gj_n a1)))] [(.int (i3 1))] SI8 SJ8 (QI Q))
    refine ⟨fun c10 => ?_, fun c10 => ?_⟩
    · refine gj_goq gj_clT ok_94 [62, 76, 91, 106] ?_
      show ((i3 0) = 0 ∨ (i3 0) = 1) ∧ (QI Q (some (.int (i3 0))) SI8 SJ8)
      refine ⟨(Or.inl rfl), ?_⟩
      exact ⟨_, rfl, (q9.1 c10)⟩
    · refine gj_goq gj_clT ok_94 [62, 76, 91, 106] ?_
      show ((i3 1) = 0 ∨ (i3 1) = 1) ∧ (QI Q (some (.int (i3 1))) SI8 SJ8)
      refine ⟨(Or.inr rfl), ?_⟩
      exact ⟨_, rfl, (q9.2 c10)⟩
set_option maxRecDepth 20000 in
/-- GraspJudge.loads -/
theorem st_95 {E : gj_E} {Q : Int32 → gj_I → gj_J → Prop} (a1 : Int32) (SI : gj_I) (SJ : gj_J) (h : DoI E 69 [(.ref 1), (.int a1), (.int (i3 1)), (.int (i3 60))] SI SJ (fun r1 SI2 SJ2 => (¬ r1 = 0 → DoV E 70 [(.ref 1), (.int a1)] SI2 SJ2 (fun SI4 SJ4 => DoI E 96 [(.ref 0)] SI4 SJ4 (fun r5 SI6 SJ6 => DoV E 71 [(.ref 1)] SI6 SJ6 (fun SI8 SJ8 => (0 ≤ r5 → ¬ ((i3 3) * r5) < 0 ∧ (0 + (gj_n ((i3 3) * r5)) ≤ 18 ∧ (Q r5 (gj_u2 (gj_ua SI8 15 (va_cpy (SI8 41) (SI8 15) 0 0 (gj_n ((i3 3) * r5)))) 3 12 r5) SJ8))) ∧ (¬ 0 ≤ r5 → Q r5 SI8 SJ8))))) ∧ (r1 = 0 → Q (i3 (-1)) SI2 SJ2))) : DoI E 95 [(.ref 0), (.int a1)] SI SJ Q := by
  refine gj_start (M := mt_95) ok_95 (Nat.le_of_ble_eq_true rfl) ?_
  refine gj_goq gj_clT ok_95 [11, 24, 28, 36] ?_
  show gj_Do E om0 (gj_mt 69) [(.ref 1), (.int a1), (.int (i3 1)), (.int (i3 60))] SI SJ _
  refine gj_Do.mono h (fun v_ SI2 SJ2 h_ => ?_)
  obtain ⟨r1, rfl, q1⟩ := h_
  show gj_Goes E om0 mt_95 11 [some (.ref 0), some (.int a1), none] [(.int r1)] SI2 SJ2 (QI Q)
  refine gj_goq gj_clT ok_95 [11, 24, 28, 36] ?_
  show (¬ r1 = 0 → gj_Goes E om0 mt_95 16 [some (.ref 0), some (.int a1), none] [] SI2 SJ2 (QI Q)) ∧ (r1 = 0 → QI Q (some (.int (i3 (-1)))) SI2 SJ2)
  refine ⟨fun c2 => ?_, fun c2 => ?_⟩
  · refine gj_goq gj_clT ok_95 [11, 24, 28, 36] ?_
    show gj_Do E om0 (gj_mt 70) [(.ref 1), (.int a1)] SI2 SJ2 _
    refine gj_Do.mono (q1.1 c2) (fun v_ SI4 SJ4 h_ => ?_)
    obtain ⟨rfl, q3⟩ := h_
    show gj_Goes E om0 mt_95 24 [some (.ref 0), some (.int a1), none] [] SI4 SJ4 (QI Q)
    refine gj_goq gj_clT ok_95 [11, 24, 28, 36] ?_
    show gj_Do E om0 (gj_mt 96) [(.ref 0)] SI4 SJ4 _
    refine gj_Do.mono q3 (fun v_ SI6 SJ6 h_ => ?_)
    obtain ⟨r5, rfl, q4⟩ := h_
    show gj_Goes E om0 mt_95 28 [some (.ref 0), some (.int a1), none] [(.int r5)] SI6 SJ6 (QI Q)
    refine gj_goq gj_clT ok_95 [11, 24, 28, 36] ?_
    show gj_Do E om0 (gj_mt 71) [(.ref 1)] SI6 SJ6 _
    refine gj_Do.mono q4 (fun v_ SI8 SJ8 h_ => ?_)
    obtain ⟨rfl, q5⟩ := h_
    show gj_Goes E om0 mt_95 36 [some (.ref 0), some (.int a1), some (.int r5)] [] SI8 SJ8 (QI Q)
    refine gj_goq gj_clT ok_95 [11, 24, 28, 36] ?_
    show (0 ≤ r5 → gj_Goes E om0 mt_95 42 [some (.ref 0), some (.int a1), some (.int r5)] [] SI8 SJ8 (QI Q)) ∧ (¬ 0 ≤ r5 → QI Q (some (.int r5)) SI8 SJ8)
    refine ⟨fun c6 => ?_, fun c6 => ?_⟩
    · refine gj_goq gj_clT ok_95 [11, 24, 28, 36] ?_
      show ¬ (i3 0) < 0 ∧ (¬ (i3 0) < 0 ∧ (¬ ((i3 3) * r5) < 0 ∧ (0 + (gj_n ((i3 3) * r5)) ≤ 18 ∧ (0 + (gj_n ((i3 3) * r5)) ≤ 18 ∧ (QI Q (some (.int r5)) (gj_u2 (gj_ua SI8 15 (va_cpy (SI8 41) (SI8 15) 0 0 (gj_n ((i3 3) * r5)))) 3 12 r5) SJ8)))))
      refine ⟨(by decide), ?_⟩
      refine ⟨(by decide), ?_⟩
      have k7 := (q5.1 c6).1
      refine ⟨k7, ?_⟩
      have k8 := (q5.1 c6).2.1
      refine ⟨k8, ?_⟩
      refine ⟨k8, ?_⟩
      exact ⟨_, rfl, (q5.1 c6).2.2⟩
    · exact ⟨_, rfl, (q5.2 c6)⟩
  · exact ⟨_, rfl, (q1.2 c2)⟩
set_option maxRecDepth 20000 in
/-- GraspJudge.readLoads -/
theorem st_96 {E : gj_E} {Q : Int32 → gj_I → gj_J → Prop} (SI : gj_I) (SJ : gj_J) (h : GoI E mt_96 2 [some (.ref 0), some (.int (i3 0)), none] SI SJ Q) : DoI E 96 [(.ref 0)] SI SJ Q := by
  refine gj_start (M := mt_96) ok_96 (Nat.le_of_ble_eq_true rfl) ?_
  refine gj_goq gj_clT ok_96 [2, 15, 29, 45, 56, 71] ?_
  show gj_Goes E om0 mt_96 2 [some (.ref 0), some (.int (i3 0)), none] [] SI SJ (QI Q)
  exact h
set_option maxRecDepth 20000 in
theorem lp_96_2 {E : gj_E} {Q : Int32 → gj_I → gj_J → Prop} (x1 : Int32) (SI : gj_I) (SJ : gj_J) (h : ((i3 6) ≤ x1 → DoI E 76 [(.ref 1), (.int (i3 4))] SI SJ (fun r1 SI2 SJ2 => Q r1 SI2 SJ2)) ∧ (¬ (i3 6) ≤ x1 → DoI E 97 [(.ref 0), (.int ((i3 3) * x1))] SI SJ (fun r3 SI4 SJ4 => (0 ≤ r3 → DoI E 72 [(.ref 1)] SI4 SJ4 (fun r5 SI6 SJ6 => (r5 = 0 → DoI E 75 [(.ref 1), (.int (i3 59))] SI6 SJ6 (fun r7 SI8 SJ8 => (¬ r7 = 0 → GoI E mt_96 2 [some (.ref 0), some (.int (x1 + (i3 1))), none] SI8 SJ8 Q) ∧ (r7 = 0 → DoI E 76 [(.ref 1), (.int (i3 1))] SI8 SJ8 (fun r9 SI10 SJ10 => Q r9 SI10 SJ10)))) ∧ (¬ r5 = 0 → Q (x1 + (i3 1)) SI6 SJ6))) ∧ (¬ 0 ≤ r3 → Q r3 SI4 SJ4)))) : GoI E mt_96 2 [some (.ref 0), some (.int x1), none] SI SJ Q := by
  refine gj_goq gj_clT ok_96 [2, 15, 29, 45, 56, 71] ?_
  show ((i3 6) ≤ x1 → gj_Goes E om0 mt_96 63 [some (.ref 0), some (.int x1), none] [] SI SJ (QI Q)) ∧ (¬ (i3 6) ≤ x1 → gj_Do E om0 (gj_mt 97) [(.ref 0), (.int ((i3 3) * x1))] SI SJ _)
  refine ⟨fun c1 => ?_, fun c1 => ?_⟩
  · refine gj_goq gj_clT ok_96 [2, 15, 29, 45, 56, 71] ?_
    show gj_Do E om0 (gj_mt 76) [(.ref 1), (.int (i3 4))] SI SJ _
    refine gj_Do.mono (h.1 c1) (fun v_ SI2 SJ2 h_ => ?_)
    obtain ⟨r1, rfl, q2⟩ := h_
    show gj_Goes E om0 mt_96 71 [some (.ref 0), some (.int x1), none] [(.int r1)] SI2 SJ2 (QI Q)
    refine gj_goq gj_clT ok_96 [2, 15, 29, 45, 56, 71] ?_
    show QI Q (some (.int r1)) SI2 SJ2
    exact ⟨_, rfl, q2⟩
  · refine gj_Do.mono (h.2 c1) (fun v_ SI4 SJ4 h_ => ?_)
    obtain ⟨r3, rfl, q3⟩ := h_
    show gj_Goes E om0 mt_96 15 [some (.ref 0), some (.int x1), none] [(.int r3)] SI4 SJ4 (QI Q)
    refine gj_goq gj_clT ok_96 [2, 15, 29, 45, 56, 71] ?_
    show (0 ≤ r3 → gj_Goes E om0 mt_96 22 [some (.ref 0), some (.int x1), some (.int r3)] [] SI4 SJ4 (QI Q)) ∧ (¬ 0 ≤ r3 → QI Q (some (.int r3)) SI4 SJ4)
    refine ⟨fun c4 => ?_, fun c4 => ?_⟩
    · refine gj_goq gj_clT ok_96 [2, 15, 29, 45, 56, 71] ?_
      show gj_Do E om0 (gj_mt 72) [(.ref 1)] SI4 SJ4 _
      refine gj_Do.mono (q3.1 c4) (fun v_ SI6 SJ6 h_ => ?_)
      obtain ⟨r5, rfl, q5⟩ := h_
      show gj_Goes E om0 mt_96 29 [some (.ref 0), some (.int x1), some (.int r3)] [(.int r5)] SI6 SJ6 (QI Q)
      refine gj_goq gj_clT ok_96 [2, 15, 29, 45, 56, 71] ?_
      show (r5 = 0 → gj_Goes E om0 mt_96 36 [some (.ref 0), some (.int x1), some (.int r3)] [] SI6 SJ6 (QI Q)) ∧ (¬ r5 = 0 → QI Q (some (.int (x1 + (i3 1)))) SI6 SJ6)
      refine ⟨fun c6 => ?_, fun c6 => ?_⟩
      · refine gj_goq gj_clT ok_96 [2, 15, 29, 45, 56, 71] ?_
        show gj_Do E om0 (gj_mt 75) [(.ref 1), (.int (i3 59))] SI6 SJ6 _
        refine gj_Do.mono (q5.1 c6) (fun v_ SI8 SJ8 h_ => ?_)
        obtain ⟨r7, rfl, q7⟩ := h_
        show gj_Goes E om0 mt_96 45 [some (.ref 0), some (.int x1), some (.int r3)] [(.int r7)] SI8 SJ8 (QI Q)
        refine gj_goq gj_clT ok_96 [2, 15, 29, 45, 56, 71] ?_
        show (¬ r7 = 0 → gj_Goes E om0 mt_96 57 [some (.ref 0), some (.int x1), some (.int r3)] [] SI8 SJ8 (QI Q)) ∧ (r7 = 0 → gj_Do E om0 (gj_mt 76) [(.ref 1), (.int (i3 1))] SI8 SJ8 _)
        refine ⟨fun c8 => ?_, fun c8 => ?_⟩
        · refine gj_goq gj_clT ok_96 [2, 15, 29, 45, 56, 71] ?_
          show gj_Goes E om0 mt_96 2 [some (.ref 0), some (.int (x1 + (i3 1))), some (.int r3)] [] SI8 SJ8 (QI Q)
          exact gj_fh (q7.1 c8) (And.intro (Or.inr rfl) (And.intro (Or.inr rfl) (And.intro (Or.inl rfl) trivial)))
        · refine gj_Do.mono (q7.2 c8) (fun v_ SI10 SJ10 h_ => ?_)
          obtain ⟨r9, rfl, q9⟩ := h_
          show gj_Goes E om0 mt_96 56 [some (.ref 0), some (.int x1), some (.int r3)] [(.int r9)] SI10 SJ10 (QI Q)
          refine gj_goq gj_clT ok_96 [2, 15, 29, 45, 56, 71] ?_
          show QI Q (some (.int r9)) SI10 SJ10
          exact ⟨_, rfl, q9⟩
      · exact ⟨_, rfl, (q5.2 c6)⟩
    · exact ⟨_, rfl, (q3.2 c4)⟩
set_option maxRecDepth 20000 in
/-- GraspJudge.readLoad -/
theorem st_97 {E : gj_E} {Q : Int32 → gj_I → gj_J → Prop} (a1 : Int32) (SI : gj_I) (SJ : gj_J) (h : GoI E mt_97 2 [some (.ref 0), some (.int a1), some (.int (i3 0)), none, none] SI SJ Q) : DoI E 97 [(.ref 0), (.int a1)] SI SJ Q := by
  refine gj_start (M := mt_97) ok_97 (Nat.le_of_ble_eq_true rfl) ?_
  refine gj_goq gj_clT ok_97 [2, 20, 31, 41, 50] ?_
  show gj_Goes E om0 mt_97 2 [some (.ref 0), some (.int a1), some (.int (i3 0)), none, none] [] SI SJ (QI Q)
  exact h
set_option maxRecDepth 20000 in
theorem lp_97_2 {E : gj_E} {Q : Int32 → gj_I → gj_J → Prop} (x1 : Int32) (x2 : Int32) (SI : gj_I) (SJ : gj_J) (h : ((i3 3) ≤ x2 → Q (i3 0) SI SJ) ∧ (¬ (i3 3) ≤ x2 → (x2 ≤ 0 → DoI E 75 [(.ref 1), (.int (i3 45))] SI SJ (fun r1 SI2 SJ2 => DoI E 77 [(.ref 1), (.int (i3 3))] SI2 SJ2 (fun r3 SI4 SJ4 => (0 ≤ r3 → (r1 = 0 → vp_in (x1 + x2) 18 ∧ (GoI E mt_97 2 [some (.ref 0), some (.int x1), some (.int (x2 + (i3 1))), none, none] (gj_u2 SI4 41 (gj_n (x1 + x2)) r3) SJ4 Q)) ∧ (¬ r1 = 0 → vp_in (x1 + x2) 18 ∧ (GoI E mt_97 2 [some (.ref 0), some (.int x1), some (.int (x2 + (i3 1))), none, none] (gj_u2 SI4 41 (gj_n (x1 + x2)) (-r3)) SJ4 Q))) ∧ (¬ 0 ≤ r3 → Q r3 SI4 SJ4)))) ∧ (¬ x2 ≤ 0 → DoI E 75 [(.ref 1), (.int (i3 44))] SI SJ (fun r5 SI6 SJ6 => (¬ r5 = 0 → DoI E 75 [(.ref 1), (.int (i3 45))] SI6 SJ6 (fun r7 SI8 SJ8 => DoI E 77 [(.ref 1), (.int (i3 3))] SI8 SJ8 (fun r9 SI10 SJ10 => (0 ≤ r9 → (r7 = 0 → vp_in (x1 + x2) 18 ∧ (GoI E mt_97 2 [some (.ref 0), some (.int x1), some (.int (x2 + (i3 1))), none, none] (gj_u2 SI10 41 (gj_n (x1 + x2)) r9) SJ10 Q)) ∧ (¬ r7 = 0 → vp_in (x1 + x2) 18 ∧ (GoI E mt_97 2 [some (.ref 0), some (.int x1), some (.int (x2 + (i3 1))), none, none] (gj_u2 SI10 41 (gj_n (x1 + x2)) (-r9)) SJ10 Q))) ∧ (¬ 0 ≤ r9 → Q r9 SI10 SJ10)))) ∧ (r5 = 0 → DoI E 76 [(.ref 1), (.int (i3 1))] SI6 SJ6 (fun r11 SI12 SJ12 => Q r11 SI12 SJ12)))))) : GoI E mt_97 2 [some (.ref 0), some (.int x1), some (.int x2), none, none] SI SJ Q := by
  refine gj_goq gj_clT ok_97 [2, 20, 31, 41, 50] ?_
  show ((i3 3) ≤ x2 → gj_Goes E om0 mt_97 86 [some (.ref 0), some (.int x1), some (.int x2), none, none] [] SI SJ (QI Q)) ∧ (¬ (i3 3) ≤ x2 → (x2 ≤ 0 → gj_Goes E om0 mt_97 32 [some (.ref 0), some (.int x1), some (.int x2), none, none] [] SI SJ (QI Q)) ∧ (¬ x2 ≤ 0 → gj_Do E om0 (gj_mt 75) [(.ref 1), (.int (i3 44))] SI SJ _))
  refine ⟨fun c1 => ?_, fun c1 => ?_⟩
  · refine gj_goq gj_clT ok_97 [2, 20, 31, 41, 50] ?_
    show QI Q (some (.int (i3 0))) SI SJ
    exact ⟨_, rfl, (h.1 c1)⟩
  · refine ⟨fun c2 => ?_, fun c2 => ?_⟩
    · refine gj_goq gj_clT ok_97 [2, 20, 31, 41, 50] ?_
      show gj_Do E om0 (gj_mt 75) [(.ref 1), (.int (i3 45))] SI SJ _
      refine gj_Do.mono ((h.2 c1).1 c2) (fun v_ SI2 SJ2 h_ => ?_)
      obtain ⟨r1, rfl, q3⟩ := h_
      show gj_Goes E om0 mt_97 41 [some (.ref 0), some (.int x1), some (.int x2), none, none] [(.int r1)] SI2 SJ2 (QI Q)
      refine gj_goq gj_clT ok_97 [2, 20, 31, 41, 50] ?_
      show gj_Do E om0 (gj_mt 77) [(.ref 1), (.int (i3 3))] SI2 SJ2 _
      refine gj_Do.mono q3 (fun v_ SI4 SJ4 h_ => ?_)
      obtain ⟨r3, rfl, q4⟩ := h_
      show gj_Goes E om0 mt_97 50 [some (.ref 0), some (.int x1), some (.int x2), some (.int r1), none] [(.int r3)] SI4 SJ4 (QI Q)
      refine gj_goq gj_clT ok_97 [2, 20, 31, 41, 50] ?_
      show (0 ≤ r3 → gj_Goes E om0 mt_97 60 [some (.ref 0), some (.int x1), some (.int x2), some (.int r1), some (.int r3)] [] SI4 SJ4 (QI Q)) ∧ (¬ 0 ≤ r3 → QI Q (some (.int r3)) SI4 SJ4)
      refine ⟨fun c5 => ?_, fun c5 => ?_⟩
      · refine gj_goq gj_clT ok_97 [2, 20, 31, 41, 50] ?_
        show (r1 = 0 → gj_Goes E om0 mt_97 77 [some (.ref 0), some (.int x1), some (.int x2), some (.int r1), some (.int r3)] [(.int (x1 + x2)), (.ref 41)] SI4 SJ4 (QI Q)) ∧ (¬ r1 = 0 → gj_Goes E om0 mt_97 79 [some (.ref 0), some (.int x1), some (.int x2), some (.int r1), some (.int r3)] [(.int (-r3)), (.int (x1 + x2)), (.ref 41)] SI4 SJ4 (QI Q))
        refine ⟨fun c6 => ?_, fun c6 => ?_⟩
        · refine gj_goq gj_clT ok_97 [2, 20, 31, 41, 50] ?_
          show vp_in (x1 + x2) 18 ∧ (gj_Goes E om0 mt_97 2 [some (.ref 0), some (.int x1), some (.int (x2 + (i3 1))), some (.int r1), some (.int r3)] [] (gj_u2 SI4 41 (gj_n (x1 + x2)) r3) SJ4 (QI Q))
          have k7 := ((q4.1 c5).1 c6).1
          refine ⟨k7, ?_⟩
          exact gj_fh ((q4.1 c5).1 c6).2 (And.intro (Or.inr rfl) (And.intro (Or.inr rfl) (And.intro (Or.inr rfl) (And.intro (Or.inl rfl) (And.intro (Or.inl rfl) trivial)))))
        · refine gj_goq gj_clT ok_97 [2, 20, 31, 41, 50] ?_
          show vp_in (x1 + x2) 18 ∧ (gj_Goes E om0 mt_97 2 [some (.ref 0), some (.int x1), some (.int (x2 + (i3 1))), some (.int r1), some (.int r3)] [] (gj_u2 SI4 41 (gj_n (x1 + x2)) (-r3)) SJ4 (QI Q))
          have k8 := ((q4.1 c5).2 c6).1
          refine ⟨k8, ?_⟩
          exact gj_fh ((q4.1 c5).2 c6).2 (And.intro (Or.inr rfl) (And.intro (Or.inr rfl) (And.intro (Or.inr rfl) (And.intro (Or.inl rfl) (And.intro (Or.inl rfl) trivial)))))
      · exact ⟨_, rfl, (q4.2 c5)⟩
    · refine gj_Do.mono ((h.2 c1).2 c2) (fun v_ SI6 SJ6 h_ => ?_)
      obtain ⟨r5, rfl, q9⟩ := h_
      show gj_Goes E om0 mt_97 20 [some (.ref 0), some (.int x1), some (.int x2), none, none] [(.int r5)] SI6 SJ6 (QI Q)
      refine gj_goq gj_clT ok_97 [2, 20, 31, 41, 50] ?_
      show (¬ r5 = 0 → gj_Goes E om0 mt_97 32 [some (.ref 0), some (.int x1), some (.int x2), none, none] [] SI6 SJ6 (QI Q)) ∧ (r5 = 0 → gj_Do E om0 (gj_mt 76) [(.ref 1), (.int (i3 1))] SI6 SJ6 _)
      refine ⟨fun c10 => ?_, fun c10 => ?_⟩
      · refine gj_goq gj_clT ok_97 [2, 20, 31, 41, 50] ?_
        show gj_Do E om0 (gj_mt 75) [(.ref 1), (.int (i3 45))] SI6 SJ6 _
        refine gj_Do.mono (q9.1 c10) (fun v_ SI8 SJ8 h_ => ?_)
        obtain ⟨r7, rfl, q11⟩ := h_
        show gj_Goes E om0 mt_97 41 [some (.ref 0), some (.int x1), some (.int x2), none, none] [(.int r7)] SI8 SJ8 (QI Q)
        refine gj_goq gj_clT ok_97 [2, 20, 31, 41, 50] ?_
        show gj_Do E om0 (gj_mt 77) [(.ref 1), (.int (i3 3))] SI8 SJ8 _
        refine gj_Do.mono q11 (fun v_ SI10 SJ10 h_ => ?_)
        obtain ⟨r9, rfl, q12⟩ := h_
        show gj_Goes E om0 mt_97 50 [some (.ref 0), some (.int x1), some (.int x2), some (.int r7), none] [(.int r9)] SI10 SJ10 (QI Q)
        refine gj_goq gj_clT ok_97 [2, 20, 31, 41, 50] ?_
        show (0 ≤ r9 → gj_Goes E om0 mt_97 60 [some (.ref 0), some (.int x1), some (.int x2), some (.int r7), some (.int r9)] [] SI10 SJ10 (QI Q)) ∧ (¬ 0 ≤ r9 → QI Q (some (.int r9)) SI10 SJ10)
        refine ⟨fun c13 => ?_, fun c13 => ?_⟩
        · refine gj_goq gj_clT ok_97 [2, 20, 31, 41, 50] ?_
          show (r7 = 0 → gj_Goes E om0 mt_97 77 [some (.ref 0), some (.int x1), some (.int x2), some (.int r7), some (.int r9)] [(.int (x1 + x2)), (.ref 41)] SI10 SJ10 (QI Q)) ∧ (¬ r7 = 0 → gj_Goes E om0 mt_97 79 [some (.ref 0), some (.int x1), some (.int x2), some (.int r7), some (.int r9)] [(.int (-r9)), (.int (x1 + x2)), (.ref 41)] SI10 SJ10 (QI Q))
          refine ⟨fun c14 => ?_, fun c14 => ?_⟩
          · refine gj_goq gj_clT ok_97 [2, 20, 31, 41, 50] ?_
            show vp_in (x1 + x2) 18 ∧ (gj_Goes E om0 mt_97 2 [some (.ref 0), some (.int x1), some (.int (x2 + (i3 1))), some (.int r7), some (.int r9)] [] (gj_u2 SI10 41 (gj_n (x1 + x2)) r9) SJ10 (QI Q))
            have k15 := ((q12.1 c13).1 c14).1
            refine ⟨k15, ?_⟩
            exact gj_fh ((q12.1 c13).1 c14).2 (And.intro (Or.inr rfl) (And.intro (Or.inr rfl) (And.intro (Or.inr rfl) (And.intro (Or.inl rfl) (And.intro (Or.inl rfl) trivial)))))
          · refine gj_goq gj_clT ok_97 [2, 20, 31, 41, 50] ?_
            show vp_in (x1 + x2) 18 ∧ (gj_Goes E om0 mt_97 2 [some (.ref 0), some (.int x1), some (.int (x2 + (i3 1))), some (.int r7), some (.int r9)] [] (gj_u2 SI10 41 (gj_n (x1 + x2)) (-r9)) SJ10 (QI Q))
            have k16 := ((q12.1 c13).2 c14).1
            refine ⟨k16, ?_⟩
            exact gj_fh ((q12.1 c13).2 c14).2 (And.intro (Or.inr rfl) (And.intro (Or.inr rfl) (And.intro (Or.inr rfl) (And.intro (Or.inl rfl) (And.intro (Or.inl rfl) trivial)))))
        · exact ⟨_, rfl, (q12.2 c13)⟩
      · refine gj_Do.mono (q9.2 c10) (fun v_ SI12 SJ12 h_ => ?_)
        obtain ⟨r11, rfl, q17⟩ := h_
        show gj_Goes E om0 mt_97 31 [some (.ref 0), some (.int x1), some (.int x2), none, none] [(.int r11)] SI12 SJ12 (QI Q)
        refine gj_goq gj_clT ok_97 [2, 20, 31, 41, 50] ?_
        show QI Q (some (.int r11)) SI12 SJ12
        exact ⟨_, rfl, q17⟩
set_option maxRecDepth 20000 in
/-- GraspJudge.check -/
theorem st_98 {E : gj_E} {Q : Int32 → gj_I → gj_J → Prop} (a1 : Int32) (SI : gj_I) (SJ : gj_J) (h : DoI E 69 [(.ref 1), (.int a1), (.int (i3 0)), (.int (i3 12))] SI SJ (fun r1 SI2 SJ2 => (¬ r1 = 0 → DoI E 99 [(.ref 0), (.int a1)] SI2 SJ2 (fun r3 SI4 SJ4 => DoV E 71 [(.ref 1)] SI4 SJ4 (fun SI6 SJ6 => Q r3 SI6 SJ6))) ∧ (r1 = 0 → Q (i3 (-2)) SI2 SJ2))) : DoI E 98 [(.ref 0), (.int a1)] SI SJ Q := by
  refine gj_start (M := mt_98) ok_98 (Nat.le_of_ble_eq_true rfl) ?_
  refine gj_goq gj_clT ok_98 [11, 22, 30] ?_
  show gj_Do E om0 (gj_mt 69) [(.ref 1), (.int a1), (.int (i3 0)), (.int (i3 12))] SI SJ _
  refine gj_Do.mono h (fun v_ SI2 SJ2 h_ => ?_)
  obtain ⟨r1, rfl, q1⟩ := h_
  show gj_Goes E om0 mt_98 11 [some (.ref 0), some (.int a1), none] [(.int r1)] SI2 SJ2 (QI Q)
  refine gj_goq gj_clT ok_98 [11, 22, 30] ?_
  show (¬ r1 = 0 → gj_Goes E om0 mt_98 17 [some (.ref 0), some (.int a1), none] [] SI2 SJ2 (QI Q)) ∧ (r1 = 0 → QI Q (some (.int (i3 (-2)))) SI2 SJ2)
  refine ⟨fun c2 => ?_, fun c2 => ?_⟩
  · refine gj_goq gj_clT ok_98 [11, 22, 30] ?_
    show gj_Do E om0 (gj_mt 99) [(.ref 0), (.int a1)] SI2 SJ2 _
    refine gj_Do.mono (q1.1 c2) (fun v_ SI4 SJ4 h_ => ?_)
    obtain ⟨r3, rfl, q3⟩ := h_
    show gj_Goes E om0 mt_98 22 [some (.ref 0), some (.int a1), none] [(.int r3)] SI4 SJ4 (QI Q)
    refine gj_goq gj_clT ok_98 [11, 22, 30] ?_
    show gj_Do E om0 (gj_mt 71) [(.ref 1)] SI4 SJ4 _
    refine gj_Do.mono q3 (fun v_ SI6 SJ6 h_ => ?_)
    obtain ⟨rfl, q4⟩ := h_
    show gj_Goes E om0 mt_98 30 [some (.ref 0), some (.int a1), some (.int r3)] [] SI6 SJ6 (QI Q)
    refine gj_goq gj_clT ok_98 [11, 22, 30] ?_
    show QI Q (some (.int r3)) SI6 SJ6
    exact ⟨_, rfl, q4⟩
  · exact ⟨_, rfl, (q1.2 c2)⟩
set_option maxRecDepth 20000 in
/-- GraspJudge.firstWrong -/
theorem st_99 {E : gj_E} {Q : Int32 → gj_I → gj_J → Prop} (a1 : Int32) (SI : gj_I) (SJ : gj_J) (h : GoI E mt_99 2 [some (.ref 0), some (.int a1), some (.int (i3 0)), none, none] SI SJ Q) : DoI E 99 [(.ref 0), (.int a1)] SI SJ Q := by
  refine gj_start (M := mt_99) ok_99 (Nat.le_of_ble_eq_true rfl) ?_
  refine gj_goq gj_clT ok_99 [2] ?_
  show gj_Goes E om0 mt_99 2 [some (.ref 0), some (.int a1), some (.int (i3 0)), none, none] [] SI SJ (QI Q)
  exact h
set_option maxRecDepth 20000 in
theorem lp_99_2 {E : gj_E} {Q : Int32 → gj_I → gj_J → Prop} (x1 : Int32) (x2 : Int32) (SI : gj_I) (SJ : gj_J) (h : (x1 ≤ x2 → Q (i3 (-1)) SI SJ) ∧ (¬ x1 ≤ x2 → ((x2 / (i3 2)) < (SI 3 5) → (¬ (x2 - x2 / (i3 2) * (i3 2)) = 0 → vp_in (x2 / (i3 2)) 6 ∧ (vp_in x2 240 ∧ (((SI 2 (gj_n x2)) = (SI 13 (gj_n (x2 / (i3 2)))) → GoI E mt_99 2 [some (.ref 0), some (.int x1), some (.int (x2 + (i3 1))), none, none] SI SJ Q) ∧ (¬ (SI 2 (gj_n x2)) = (SI 13 (gj_n (x2 / (i3 2)))) → Q x2 SI SJ)))) ∧ ((x2 - x2 / (i3 2) * (i3 2)) = 0 → vp_in (x2 / (i3 2)) 6 ∧ (vp_in x2 240 ∧ (((SI 2 (gj_n x2)) = (SI 12 (gj_n (x2 / (i3 2)))) → GoI E mt_99 2 [some (.ref 0), some (.int x1), some (.int (x2 + (i3 1))), none, none] SI SJ Q) ∧ (¬ (SI 2 (gj_n x2)) = (SI 12 (gj_n (x2 / (i3 2)))) → Q x2 SI SJ))))) ∧ (¬ (x2 / (i3 2)) < (SI 3 5) → Q x2 SI SJ))) : GoI E mt_99 2 [some (.ref 0), some (.int x1), some (.int x2), none, none] SI SJ Q := by
  refine gj_goq gj_clT ok_99 [2] ?_
  show (x1 ≤ x2 → gj_Goes E om0 mt_99 75 [some (.ref 0), some (.int x1), some (.int x2), none, none] [] SI SJ (QI Q)) ∧ (¬ x1 ≤ x2 → ¬ (i3 2) = 0 ∧ (((x2 / (i3 2)) < (SI 3 5) → gj_Goes E om0 mt_99 24 [some (.ref 0), some (.int x1), some (.int x2), some (.int (x2 / (i3 2))), none] [] SI SJ (QI Q)) ∧ (¬ (x2 / (i3 2)) < (SI 3 5) → QI Q (some (.int x2)) SI SJ)))
  refine ⟨fun c1 => ?_, fun c1 => ?_⟩
  · refine gj_goq gj_clT ok_99 [2] ?_
    show QI Q (some (.int (i3 (-1)))) SI SJ
    exact ⟨_, rfl, (h.1 c1)⟩
  · refine ⟨(by decide), ?_⟩
    refine ⟨fun c2 => ?_, fun c2 => ?_⟩
    · refine gj_goq gj_clT ok_99 [2] ?_
      show ¬ (i3 2) = 0 ∧ ((¬ (x2 - x2 / (i3 2) * (i3 2)) = 0 → gj_Goes E om0 mt_99 42 [some (.ref 0), some (.int x1), some (.int x2), some (.int (x2 / (i3 2))), none] [] SI SJ (QI Q)) ∧ ((x2 - x2 / (i3 2) * (i3 2)) = 0 → vp_in (x2 / (i3 2)) 6 ∧ (gj_Goes E om0 mt_99 51 [some (.ref 0), some (.int x1), some (.int x2), some (.int (x2 / (i3 2))), none] [(.int (SI 12 (gj_n (x2 / (i3 2)))))] SI SJ (QI Q))))
      refine ⟨(by decide), ?_⟩
      refine ⟨fun c3 => ?_, fun c3 => ?_⟩
      · refine gj_goq gj_clT ok_99 [2] ?_
        show vp_in (x2 / (i3 2)) 6 ∧ (vp_in x2 240 ∧ (((SI 2 (gj_n x2)) = (SI 13 (gj_n (x2 / (i3 2)))) → gj_Goes E om0 mt_99 69 [some (.ref 0), some (.int x1), some (.int x2), some (.int (x2 / (i3 2))), some (.int (SI 13 (gj_n (x2 / (i3 2)))))] [] SI SJ (QI Q)) ∧ (¬ (SI 2 (gj_n x2)) = (SI 13 (gj_n (x2 / (i3 2)))) → QI Q (some (.int x2)) SI SJ)))
        have k4 := (((h.2 c1).1 c2).1 c3).1
        refine ⟨k4, ?_⟩
        have k5 := (((h.2 c1).1 c2).1 c3).2.1
        refine ⟨k5, ?_⟩
        refine ⟨fun c6 => ?_, fun c6 => ?_⟩
        · refine gj_goq gj_clT ok_99 [2] ?_
          show gj_Goes E om0 mt_99 2 [some (.ref 0), some (.int x1), some (.int (x2 + (i3 1))), some (.int (x2 / (i3 2))), some (.int (SI 13 (gj_n (x2 / (i3 2)))))] [] SI SJ (QI Q)
          exact gj_fh ((((h.2 c1).1 c2).1 c3).2.2.1 c6) (And.intro (Or.inr rfl) (And.intro (Or.inr rfl) (And.intro (Or.inr rfl) (And.intro (Or.inl rfl) (And.intro (Or.inl rfl) trivial)))))
        · exact ⟨_, rfl, ((((h.2 c1).1 c2).1 c3).2.2.2 c6)⟩
      · have k7 := (((h.2 c1).1 c2).2 c3).1
        refine ⟨k7, ?_⟩
        refine gj_goq gj_clT ok_99 [2] ?_
        show vp_in x2 240 ∧ (((SI 2 (gj_n x2)) = (SI 12 (gj_n (x2 / (i3 2)))) → gj_Goes E om0 mt_99 69 [some (.ref 0), some (.int x1), some (.int x2), some (.int (x2 / (i3 2))), some (.int (SI 12 (gj_n (x2 / (i3 2)))))] [] SI SJ (QI Q)) ∧ (¬ (SI 2 (gj_n x2)) = (SI 12 (gj_n (x2 / (i3 2)))) → QI Q (some (.int x2)) SI SJ))
        have k8 := (((h.2 c1).1 c2).2 c3).2.1
        refine ⟨k8, ?_⟩
        refine ⟨fun c9 => ?_, fun c9 => ?_⟩
        · refine gj_goq gj_clT ok_99 [2] ?_
          show gj_Goes E om0 mt_99 2 [some (.ref 0), some (.int x1), some (.int (x2 + (i3 1))), some (.int (x2 / (i3 2))), some (.int (SI 12 (gj_n (x2 / (i3 2)))))] [] SI SJ (QI Q)
          exact gj_fh ((((h.2 c1).1 c2).2 c3).2.2.1 c9) (And.intro (Or.inr rfl) (And.intro (Or.inr rfl) (And.intro (Or.inr rfl) (And.intro (Or.inl rfl) (And.intro (Or.inl rfl) trivial)))))
        · exact ⟨_, rfl, ((((h.2 c1).1 c2).2 c3).2.2.2 c9)⟩
    · exact ⟨_, rfl, ((h.2 c1).2 c2)⟩
set_option maxRecDepth 20000 in
/-- GraspJudge.put -/
theorem st_100 {E : gj_E} {Q : Int32 → gj_I → gj_J → Prop} (a1 : Int32) (a2 : Int32) (SI : gj_I) (SJ : gj_J) (h : DoI E 101 [(.ref 0), (.int a1), (.int a2)] SI SJ (fun r1 SI2 SJ2 => Q r1 SI2 SJ2)) : DoI E 100 [(.ref 0), (.int a1), (.int a2)] SI SJ Q := by
  refine gj_start (M := mt_100) ok_100 (Nat.le_of_ble_eq_true rfl) ?_
  refine gj_goq gj_clT ok_100 [6] ?_
  show gj_Do E om0 (gj_mt 101) [(.ref 0), (.int a1), (.int a2)] SI SJ _
  refine gj_Do.mono h (fun v_ SI2 SJ2 h_ => ?_)
  obtain ⟨r1, rfl, q1⟩ := h_
  show gj_Goes E om0 mt_100 6 [some (.ref 0), some (.int a1), some (.int a2)] [(.int r1)] SI2 SJ2 (QI Q)
  refine gj_goq gj_clT ok_100 [6] ?_
  show QI Q (some (.int r1)) SI2 SJ2
  exact ⟨_, rfl, q1⟩
set_option maxRecDepth 20000 in
/-- GraspJudge.putFinger -/
theorem st_101 {E : gj_E} {Q : Int32 → gj_I → gj_J → Prop} (a1 : Int32) (a2 : Int32) (SI : gj_I) (SJ : gj_J) (h : DoI E 30 [(.ref 4), (.int a1), (.int a2)] SI SJ (fun r1 SI2 SJ2 => (¬ r1 = 0 → DoI E 63 [(.ref 3), (.int a1), (.int a2)] SI2 SJ2 (fun r3 SI4 SJ4 => (r3 < 0 → ((SI4 3 5) < (i3 6) → vp_in (SI4 3 5) 6 ∧ (DoV E 113 [(.ref 0), (.int (i3 0))] (gj_u2 (gj_u2 (gj_u2 SI4 12 (gj_n (SI4 3 5)) a1) 13 (gj_n (SI4 3 5)) a2) 3 5 ((SI4 3 5) + (i3 1))) SJ4 (fun SI6 SJ6 => Q (SI4 3 5) SI6 SJ6))) ∧ (¬ (SI4 3 5) < (i3 6) → Q (i3 (-3)) SI4 SJ4)) ∧ (¬ r3 < 0 → Q (i3 (-2)) SI4 SJ4))) ∧ (r1 = 0 → Q (i3 (-1)) SI2 SJ2))) : DoI E 101 [(.ref 0), (.int a1), (.int a2)] SI SJ Q := by
  refine gj_start (M := mt_101) ok_101 (Nat.le_of_ble_eq_true rfl) ?_
  refine gj_goq gj_clT ok_101 [12, 26, 90] ?_
  show gj_Do E om0 (gj_mt 30) [(.ref 4), (.int a1), (.int a2)] SI SJ _
  refine gj_Do.mono h (fun v_ SI2 SJ2 h_ => ?_)
  obtain ⟨r1, rfl, q1⟩ := h_
  show gj_Goes E om0 mt_101 12 [some (.ref 0), some (.int a1), some (.int a2), none] [(.int r1)] SI2 SJ2 (QI Q)
  refine gj_goq gj_clT ok_101 [12, 26, 90] ?_
  show (¬ r1 = 0 → gj_Goes E om0 mt_101 17 [some (.ref 0), some (.int a1), some (.int a2), none] [] SI2 SJ2 (QI Q)) ∧ (r1 = 0 → QI Q (some (.int (i3 (-1)))) SI2 SJ2)
  refine ⟨fun c2 => ?_, fun c2 => ?_⟩
  · refine gj_goq gj_clT ok_101 [12, 26, 90] ?_
    show gj_Do E om0 (gj_mt 63) [(.ref 3), (.int a1), (.int a2)] SI2 SJ2 _
    refine gj_Do.mono (q1.1 c2) (fun v_ SI4 SJ4 h_ => ?_)
    obtain ⟨r3, rfl, q3⟩ := h_
    show gj_Goes E om0 mt_101 26 [some (.ref 0), some (.int a1), some (.int a2), none] [(.int r3)] SI4 SJ4 (QI Q)
    refine gj_goq gj_clT ok_101 [12, 26, 90] ?_
    show (r3 < 0 → gj_Goes E om0 mt_101 32 [some (.ref 0), some (.int a1), some (.int a2), none] [] SI4 SJ4 (QI Q)) ∧ (¬ r3 < 0 → QI Q (some (.int (i3 (-2)))) SI4 SJ4)
    refine ⟨fun c4 => ?_, fun c4 => ?_⟩
    · refine gj_goq gj_clT ok_101 [12, 26, 90] ?_
      show ((SI4 3 5) < (i3 6) → gj_Goes E om0 mt_101 47 [some (.ref 0), some (.int a1), some (.int a2), none] [] SI4 SJ4 (QI Q)) ∧ (¬ (SI4 3 5) < (i3 6) → QI Q (some (.int (i3 (-3)))) SI4 SJ4)
      refine ⟨fun c5 => ?_, fun c5 => ?_⟩
      · refine gj_goq gj_clT ok_101 [12, 26, 90] ?_
        show vp_in (SI4 3 5) 6 ∧ (vp_in (SI4 3 5) 6 ∧ (gj_Do E om0 (gj_mt 113) [(.ref 0), (.int (i3 0))] (gj_u2 (gj_u2 (gj_u2 SI4 12 (gj_n (SI4 3 5)) a1) 13 (gj_n (SI4 3 5)) a2) 3 5 ((SI4 3 5) + (i3 1))) SJ4 _))
        have k6 := ((q3.1 c4).1 c5).1
        refine ⟨k6, ?_⟩
        refine ⟨k6, ?_⟩
        refine gj_Do.mono ((q3.1 c4).1 c5).2 (fun v_ SI6 SJ6 h_ => ?_)
        obtain ⟨rfl, q7⟩ := h_
        show gj_Goes E om0 mt_101 90 [some (.ref 0), some (.int a1), some (.int a2), some (.int (SI4 3 5))] [] SI6 SJ6 (QI Q)
        refine gj_goq gj_clT ok_101 [12, 26, 90] ?_
        show QI Q (some (.int (SI4 3 5))) SI6 SJ6
        exact ⟨_, rfl, q7⟩
      · exact ⟨_, rfl, ((q3.1 c4).2 c5)⟩
    · exact ⟨_, rfl, (q3.2 c4)⟩
  · exact ⟨_, rfl, (q1.2 c2)⟩
set_option maxRecDepth 20000 in
/-- GraspJudge.take -/
theorem st_102 {E : gj_E} {Q : Int32 → gj_I → gj_J → Prop} (a1 : Int32) (SI : gj_I) (SJ : gj_J) (h : DoI E 103 [(.ref 0), (.int a1)] SI SJ (fun r1 SI2 SJ2 => Q r1 SI2 SJ2)) : DoI E 102 [(.ref 0), (.int a1)] SI SJ Q := by
  refine gj_start (M := mt_102) ok_102 (Nat.le_of_ble_eq_true rfl) ?_
  refine gj_goq gj_clT ok_102 [5] ?_
  show gj_Do E om0 (gj_mt 103) [(.ref 0), (.int a1)] SI SJ _
  refine gj_Do.mono h (fun v_ SI2 SJ2 h_ => ?_)
  obtain ⟨r1, rfl, q1⟩ := h_
  show gj_Goes E om0 mt_102 5 [some (.ref 0), some (.int a1)] [(.int r1)] SI2 SJ2 (QI Q)
  refine gj_goq gj_clT ok_102 [5] ?_
  show QI Q (some (.int r1)) SI2 SJ2
  exact ⟨_, rfl, q1⟩
set_option maxRecDepth 20000 in
/-- GraspJudge.takeFinger -/
theorem st_103 {E : gj_E} {Q : Int32 → gj_I → gj_J → Prop} (a1 : Int32) (SI : gj_I) (SJ : gj_J) (h : (a1 < 0 → Q (i3 (-1)) SI SJ) ∧ (¬ a1 < 0 → (a1 < (SI 3 5) → GoI E mt_103 21 [some (.ref 0), none, some (.int (a1 + (i3 1)))] SI SJ Q) ∧ (¬ a1 < (SI 3 5) → Q (i3 (-1)) SI SJ))) : DoI E 103 [(.ref 0), (.int a1)] SI SJ Q := by
  refine gj_start (M := mt_103) ok_103 (Nat.le_of_ble_eq_true rfl) ?_
  refine gj_goq gj_clT ok_103 [21, 96] ?_
  show (a1 < 0 → gj_Goes E om0 mt_103 15 [some (.ref 0), some (.int a1), none] [] SI SJ (QI Q)) ∧ (¬ a1 < 0 → (a1 < (SI 3 5) → gj_Goes E om0 mt_103 17 [some (.ref 0), some (.int a1), none] [] SI SJ (QI Q)) ∧ (¬ a1 < (SI 3 5) → QI Q (some (.int (i3 (-1)))) SI SJ))
  refine ⟨fun c1 => ?_, fun c1 => ?_⟩
  · refine gj_goq gj_clT ok_103 [21, 96] ?_
    show QI Q (some (.int (i3 (-1)))) SI SJ
    exact ⟨_, rfl, (h.1 c1)⟩
  · refine ⟨fun c2 => ?_, fun c2 => ?_⟩
    · refine gj_goq gj_clT ok_103 [21, 96] ?_
      show gj_Goes E om0 mt_103 21 [some (.ref 0), some (.int a1), some (.int (a1 + (i3 1)))] [] SI SJ (QI Q)
      exact gj_fh ((h.2 c1).1 c2) (And.intro (Or.inr rfl) (And.intro (Or.inl rfl) (And.intro (Or.inr rfl) trivial)))
    · exact ⟨_, rfl, ((h.2 c1).2 c2)⟩
set_option maxRecDepth 20000 in
theorem lp_103_21 {E : gj_E} {Q : Int32 → gj_I → gj_J → Prop} (x2 : Int32) (SI : gj_I) (SJ : gj_J) (h : ((SI 3 5) ≤ x2 → DoV E 113 [(.ref 0), (.int (i3 1))] (gj_u2 SI 3 5 ((SI 3 5) - (i3 1))) SJ (fun SI2 SJ2 => Q (SI2 3 5) SI2 SJ2)) ∧ (¬ (SI 3 5) ≤ x2 → vp_in x2 6 ∧ (vp_in (x2 - (i3 1)) 6 ∧ (GoI E mt_103 21 [some (.ref 0), none, some (.int (x2 + (i3 1)))] (gj_u2 (gj_u2 SI 12 (gj_n (x2 - (i3 1))) (SI 12 (gj_n x2))) 13 (gj_n (x2 - (i3 1))) (SI 13 (gj_n x2))) SJ Q)))) : GoI E mt_103 21 [some (.ref 0), none, some (.int x2)] SI SJ Q := by
  refine gj_goq gj_clT ok_103 [21, 96] ?_
  show ((SI 3 5) ≤ x2 → gj_Goes E om0 mt_103 78 [some (.ref 0), none, some (.int x2)] [] SI SJ (QI Q)) ∧ (¬ (SI 3 5) ≤ x2 → vp_in x2 6 ∧ (vp_in (x2 - (i3 1)) 6 ∧ (vp_in x2 6 ∧ (vp_in (x2 - (i3 1)) 6 ∧ (gj_Goes E om0 mt_103 21 [some (.ref 0), none, some (.int (x2 + (i3 1)))] [] (gj_u2 (gj_u2 SI 12 (gj_n (x2 - (i3 1))) (SI 12 (gj_n x2))) 13 (gj_n (x2 - (i3 1))) (SI 13 (gj_n x2))) SJ (QI Q))))))
  refine ⟨fun c1 => ?_, fun c1 => ?_⟩
  · refine gj_goq gj_clT ok_103 [21, 96] ?_
    show gj_Do E om0 (gj_mt 113) [(.ref 0), (.int (i3 1))] (gj_u2 SI 3 5 ((SI 3 5) - (i3 1))) SJ _
    refine gj_Do.mono (h.1 c1) (fun v_ SI2 SJ2 h_ => ?_)
    obtain ⟨rfl, q2⟩ := h_
    show gj_Goes E om0 mt_103 96 [some (.ref 0), none, some (.int x2)] [] SI2 SJ2 (QI Q)
    refine gj_goq gj_clT ok_103 [21, 96] ?_
    show QI Q (some (.int (SI2 3 5))) SI2 SJ2
    exact ⟨_, rfl, q2⟩
  · have k3 := (h.2 c1).1
    refine ⟨k3, ?_⟩
    have k4 := (h.2 c1).2.1
    refine ⟨k4, ?_⟩
    refine ⟨k3, ?_⟩
    refine ⟨k4, ?_⟩
    exact (h.2 c1).2.2
set_option maxRecDepth 20000 in
/-- GraspJudge.tread -/
theorem st_104 {E : gj_E} {Q : Int32 → gj_I → gj_J → Prop} (a1 : Int32) (a2 : Int32) (SI : gj_I) (SJ : gj_J) (h : DoI E 105 [(.ref 0), (.int a1), (.int a2)] SI SJ (fun r1 SI2 SJ2 => Q r1 SI2 SJ2)) : DoI E 104 [(.ref 0), (.int a1), (.int a2)] SI SJ Q := by
  refine gj_start (M := mt_104) ok_104 (Nat.le_of_ble_eq_true rfl) ?_
  refine gj_goq gj_clT ok_104 [6] ?_
  show gj_Do E om0 (gj_mt 105) [(.ref 0), (.int a1), (.int a2)] SI SJ _
  refine gj_Do.mono h (fun v_ SI2 SJ2 h_ => ?_)
  obtain ⟨r1, rfl, q1⟩ := h_
  show gj_Goes E om0 mt_104 6 [some (.ref 0), some (.int a1), some (.int a2)] [(.int r1)] SI2 SJ2 (QI Q)
  refine gj_goq gj_clT ok_104 [6] ?_
  show QI Q (some (.int r1)) SI2 SJ2
  exact ⟨_, rfl, q1⟩
set_option maxRecDepth 20000 in
/-- GraspJudge.chooseTread -/
theorem st_105 {E : gj_E} {Q : Int32 → gj_I → gj_J → Prop} (a1 : Int32) (a2 : Int32) (SI : gj_I) (SJ : gj_J) (h : (a1 < 0 → Q (i3 (-1)) SI SJ) ∧ (¬ a1 < 0 → ((i3 3) < a1 → Q (i3 (-1)) SI SJ) ∧ (¬ (i3 3) < a1 → (a2 < (i3 1) → Q (i3 (-1)) SI SJ) ∧ (¬ a2 < (i3 1) → (a2 ≤ (i3 3) → DoV E 113 [(.ref 0), (.int (i3 2))] (gj_u2 (gj_u2 SI 3 6 a1) 3 7 a2) SJ (fun SI2 SJ2 => Q (i3 0) SI2 SJ2)) ∧ (¬ a2 ≤ (i3 3) → Q (i3 (-1)) SI SJ))))) : DoI E 105 [(.ref 0), (.int a1), (.int a2)] SI SJ Q := by
  refine gj_start (M := mt_105) ok_105 (Nat.le_of_ble_eq_true rfl) ?_
  refine gj_goq gj_clT ok_105 [42] ?_
  show (a1 < 0 → gj_Goes E om0 mt_105 19 [some (.ref 0), some (.int a1), some (.int a2)] [] SI SJ (QI Q)) ∧ (¬ a1 < 0 → ((i3 3) < a1 → gj_Goes E om0 mt_105 19 [some (.ref 0), some (.int a1), some (.int a2)] [] SI SJ (QI Q)) ∧ (¬ (i3 3) < a1 → (a2 < (i3 1) → gj_Goes E om0 mt_105 19 [some (.ref 0), some (.int a1), some (.int a2)] [] SI SJ (QI Q)) ∧ (¬ a2 < (i3 1) → (a2 ≤ (i3 3) → gj_Goes E om0 mt_105 21 [some (.ref 0), some (.int a1), some (.int a2)] [] SI SJ (QI Q)) ∧ (¬ a2 ≤ (i3 3) → QI Q (some (.int (i3 (-1)))) SI SJ))))
  refine ⟨fun c1 => ?_, fun c1 => ?_⟩
  · refine gj_goq gj_clT ok_105 [42] ?_
    show QI Q (some (.int (i3 (-1)))) SI SJ
    exact ⟨_, rfl, (h.1 c1)⟩
  · refine ⟨fun c2 => ?_, fun c2 => ?_⟩
    · refine gj_goq gj_clT ok_105 [42] ?_
      show QI Q (some (.int (i3 (-1)))) SI SJ
      exact ⟨_, rfl, ((h.2 c1).1 c2)⟩
    · refine ⟨fun c3 => ?_, fun c3 => ?_⟩
      · refine gj_goq gj_clT ok_105 [42] ?_
        show QI Q (some (.int (i3 (-1)))) SI SJ
        exact ⟨_, rfl, (((h.2 c1).2 c2).1 c3)⟩
      · refine ⟨fun c4 => ?_, fun c4 => ?_⟩
        · refine gj_goq gj_clT ok_105 [42] ?_
          show gj_Do E om0 (gj_mt 113) [(.ref 0), (.int (i3 2))] (gj_u2 (gj_u2 SI 3 6 a1) 3 7 a2) SJ _
          refine gj_Do.mono ((((h.2 c1).2 c2).2 c3).1 c4) (fun v_ SI2 SJ2 h_ => ?_)
          obtain ⟨rfl, q5⟩ := h_
          show gj_Goes E om0 mt_105 42 [some (.ref 0), some (.int a1), some (.int a2)] [] SI2 SJ2 (QI Q)
          refine gj_goq gj_clT ok_105 [42] ?_
          show QI Q (some (.int (i3 0))) SI2 SJ2
          exact ⟨_, rfl, q5⟩
        · exact ⟨_, rfl, ((((h.2 c1).2 c2).2 c3).2 c4)⟩
set_option maxRecDepth 20000 in
/-- GraspJudge.centre -/
theorem st_106 {E : gj_E} {Q : Int32 → gj_I → gj_J → Prop} (a1 : Int32) (a2 : Int32) (SI : gj_I) (SJ : gj_J) (h : DoI E 107 [(.ref 0), (.int a1), (.int a2)] SI SJ (fun r1 SI2 SJ2 => Q r1 SI2 SJ2)) : DoI E 106 [(.ref 0), (.int a1), (.int a2)] SI SJ Q := by
  refine gj_start (M := mt_106) ok_106 (Nat.le_of_ble_eq_true rfl) ?_
  refine gj_goq gj_clT ok_106 [6] ?_
  show gj_Do E om0 (gj_mt 107) [(.ref 0), (.int a1), (.int a2)] SI SJ _
  refine gj_Do.mono h (fun v_ SI2 SJ2 h_ => ?_)
  obtain ⟨r1, rfl, q1⟩ := h_
  show gj_Goes E om0 mt_106 6 [some (.ref 0), some (.int a1), some (.int a2)] [(.int r1)] SI2 SJ2 (QI Q)
  refine gj_goq gj_clT ok_106 [6] ?_
  show QI Q (some (.int r1)) SI2 SJ2
  exact ⟨_, rfl, q1⟩
set_option maxRecDepth 20000 in
/-- GraspJudge.moveCentre -/
theorem st_107 {E : gj_E} {Q : Int32 → gj_I → gj_J → Prop} (a1 : Int32) (a2 : Int32) (SI : gj_I) (SJ : gj_J) (h : (a1 < 0 → Q (i3 (-1)) SI SJ) ∧ (¬ a1 < 0 → ((i3 9) < a1 → Q (i3 (-1)) SI SJ) ∧ (¬ (i3 9) < a1 → (a2 < 0 → Q (i3 (-1)) SI SJ) ∧ (¬ a2 < 0 → (a2 ≤ (i3 9) → DoV E 113 [(.ref 0), (.int (i3 3))] (gj_u2 (gj_u2 SI 3 8 a1) 3 9 a2) SJ (fun SI2 SJ2 => Q (i3 0) SI2 SJ2)) ∧ (¬ a2 ≤ (i3 9) → Q (i3 (-1)) SI SJ))))) : DoI E 107 [(.ref 0), (.int a1), (.int a2)] SI SJ Q := by
  refine gj_start (M := mt_107) ok_107 (Nat.le_of_ble_eq_true rfl) ?_
  refine gj_goq gj_clT ok_107 [43] ?_
  show (a1 < 0 → gj_Goes E om0 mt_107 20 [some (.ref 0), some (.int a1), some (.int a2)] [] SI SJ (QI Q)) ∧ (¬ a1 < 0 → ((i3 9) < a1 → gj_Goes E om0 mt_107 20 [some (.ref 0), some (.int a1), some (.int a2)] [] SI SJ (QI Q)) ∧ (¬ (i3 9) < a1 → (a2 < 0 → gj_Goes E om0 mt_107 20 [some (.ref 0), some (.int a1), some (.int a2)] [] SI SJ (QI Q)) ∧ (¬ a2 < 0 → (a2 ≤ (i3 9) → gj_Goes E om0 mt_107 22 [some (.ref 0), some (.int a1), some (.int a2)] [] SI SJ (QI Q)) ∧ (¬ a2 ≤ (i3 9) → QI Q (some (.int (i3 (-1)))) SI SJ))))
  refine ⟨fun c1 => ?_, fun c1 => ?_⟩
  · refine gj_goq gj_clT ok_107 [43] ?_
    show QI Q (some (.int (i3 (-1)))) SI SJ
    exact ⟨_, rfl, (h.1 c1)⟩
  · refine ⟨fun c2 => ?_, fun c2 => ?_⟩
    · refine gj_goq gj_clT ok_107 [43] ?_
      show QI Q (some (.int (i3 (-1)))) SI SJ
      exact ⟨_, rfl, ((h.2 c1).1 c2)⟩
    · refine ⟨fun c3 => ?_, fun c3 => ?_⟩
      · refine gj_goq gj_clT ok_107 [43] ?_
        show QI Q (some (.int (i3 (-1)))) SI SJ
        exact ⟨_, rfl, (((h.2 c1).2 c2).1 c3)⟩
      · refine ⟨fun c4 => ?_, fun c4 => ?_⟩
        · refine gj_goq gj_clT ok_107 [43] ?_
          show gj_Do E om0 (gj_mt 113) [(.ref 0), (.int (i3 3))] (gj_u2 (gj_u2 SI 3 8 a1) 3 9 a2) SJ _
          refine gj_Do.mono ((((h.2 c1).2 c2).2 c3).1 c4) (fun v_ SI2 SJ2 h_ => ?_)
          obtain ⟨rfl, q5⟩ := h_
          show gj_Goes E om0 mt_107 43 [some (.ref 0), some (.int a1), some (.int a2)] [] SI2 SJ2 (QI Q)
          refine gj_goq gj_clT ok_107 [43] ?_
          show QI Q (some (.int (i3 0))) SI2 SJ2
          exact ⟨_, rfl, q5⟩
        · exact ⟨_, rfl, ((((h.2 c1).2 c2).2 c3).2 c4)⟩
set_option maxRecDepth 20000 in
/-- GraspJudge.turn -/
theorem st_108 {E : gj_E} {Q : Int32 → gj_I → gj_J → Prop} (SI : gj_I) (SJ : gj_J) (h : DoV E 33 [(.ref 4)] SI SJ (fun SI2 SJ2 => DoV E 113 [(.ref 0), (.int (i3 4))] (gj_u2 (gj_u2 SI2 3 8 ((i3 9) - (SI2 3 9))) 3 9 (SI2 3 8)) SJ2 (fun SI4 SJ4 => DoI E 152 [(.int (SI4 0 13))] SI4 SJ4 (fun r5 SI6 SJ6 => Q r5 SI6 SJ6)))) : DoI E 108 [(.ref 0)] SI SJ Q := by
  refine gj_start (M := mt_108) ok_108 (Nat.le_of_ble_eq_true rfl) ?_
  refine gj_goq gj_clT ok_108 [10, 48, 55] ?_
  show gj_Do E om0 (gj_mt 33) [(.ref 4)] SI SJ _
  refine gj_Do.mono h (fun v_ SI2 SJ2 h_ => ?_)
  obtain ⟨rfl, q1⟩ := h_
  show gj_Goes E om0 mt_108 10 [some (.ref 0), none] [] SI2 SJ2 (QI Q)
  refine gj_goq gj_clT ok_108 [10, 48, 55] ?_
  show gj_Do E om0 (gj_mt 113) [(.ref 0), (.int (i3 4))] (gj_u2 (gj_u2 SI2 3 8 ((i3 9) - (SI2 3 9))) 3 9 (SI2 3 8)) SJ2 _
  refine gj_Do.mono q1 (fun v_ SI4 SJ4 h_ => ?_)
  obtain ⟨rfl, q2⟩ := h_
  show gj_Goes E om0 mt_108 48 [some (.ref 0), some (.int (SI2 3 8))] [] SI4 SJ4 (QI Q)
  refine gj_goq gj_clT ok_108 [10, 48, 55] ?_
  show gj_Do E om0 (gj_mt 152) [(.int (SI4 0 13))] SI4 SJ4 _
  refine gj_Do.mono q2 (fun v_ SI6 SJ6 h_ => ?_)
  obtain ⟨r5, rfl, q3⟩ := h_
  show gj_Goes E om0 mt_108 55 [some (.ref 0), some (.int (SI2 3 8))] [(.int r5)] SI6 SJ6 (QI Q)
  refine gj_goq gj_clT ok_108 [10, 48, 55] ?_
  show QI Q (some (.int r5)) SI6 SJ6
  exact ⟨_, rfl, q3⟩
set_option maxRecDepth 20000 in
/-- GraspJudge.past -/
theorem st_109 {E : gj_E} {Q : Int32 → gj_I → gj_J → Prop} (a1 : Int32) (a2 : Int32) (SI : gj_I) (SJ : gj_J) (h : (a1 < 0 → Q (i3 (-1)) SI SJ) ∧ (¬ a1 < 0 → ((SI 3 11) ≤ a1 → Q (i3 (-1)) SI SJ) ∧ (¬ (SI 3 11) ≤ a1 → (a2 < 0 → Q (i3 (-1)) SI SJ) ∧ (¬ a2 < 0 → (a2 ≤ (i3 3) → vp_in (((i3 4) * a1) + a2) 80 ∧ (Q (SI 14 (gj_n (((i3 4) * a1) + a2))) SI SJ)) ∧ (¬ a2 ≤ (i3 3) → Q (i3 (-1)) SI SJ))))) : DoI E 109 [(.ref 0), (.int a1), (.int a2)] SI SJ Q := by
  refine gj_start (M := mt_109) ok_109 (Nat.le_of_ble_eq_true rfl) ?_
  refine gj_goq gj_clT ok_109 [] ?_
  show (a1 < 0 → gj_Goes E om0 mt_109 24 [some (.ref 0), some (.int a1), some (.int a2)] [] SI SJ (QI Q)) ∧ (¬ a1 < 0 → ((SI 3 11) ≤ a1 → gj_Goes E om0 mt_109 24 [some (.ref 0), some (.int a1), some (.int a2)] [] SI SJ (QI Q)) ∧ (¬ (SI 3 11) ≤ a1 → (a2 < 0 → gj_Goes E om0 mt_109 24 [some (.ref 0), some (.int a1), some (.int a2)] [] SI SJ (QI Q)) ∧ (¬ a2 < 0 → (a2 ≤ (i3 3) → gj_Goes E om0 mt_109 26 [some (.ref 0), some (.int a1), some (.int a2)] [] SI SJ (QI Q)) ∧ (¬ a2 ≤ (i3 3) → QI Q (some (.int (i3 (-1)))) SI SJ))))
  refine ⟨fun c1 => ?_, fun c1 => ?_⟩
  · refine gj_goq gj_clT ok_109 [] ?_
    show QI Q (some (.int (i3 (-1)))) SI SJ
    exact ⟨_, rfl, (h.1 c1)⟩
  · refine ⟨fun c2 => ?_, fun c2 => ?_⟩
    · refine gj_goq gj_clT ok_109 [] ?_
      show QI Q (some (.int (i3 (-1)))) SI SJ
      exact ⟨_, rfl, ((h.2 c1).1 c2)⟩
    · refine ⟨fun c3 => ?_, fun c3 => ?_⟩
      · refine gj_goq gj_clT ok_109 [] ?_
        show QI Q (some (.int (i3 (-1)))) SI SJ
        exact ⟨_, rfl, (((h.2 c1).2 c2).1 c3)⟩
      · refine ⟨fun c4 => ?_, fun c4 => ?_⟩
        · refine gj_goq gj_clT ok_109 [] ?_
          show vp_in (((i3 4) * a1) + a2) 80 ∧ (QI Q (some (.int (SI 14 (gj_n (((i3 4) * a1) + a2))))) SI SJ)
          have k5 := ((((h.2 c1).2 c2).2 c3).1 c4).1
          refine ⟨k5, ?_⟩
          exact ⟨_, rfl, ((((h.2 c1).2 c2).2 c3).1 c4).2⟩
        · exact ⟨_, rfl, ((((h.2 c1).2 c2).2 c3).2 c4)⟩
set_option maxRecDepth 20000 in
/-- GraspJudge.seed -/
theorem st_110 {E : gj_E} {Q : Int32 → gj_I → gj_J → Prop} (a1 : Int32) (SI : gj_I) (SJ : gj_J) (h : (a1 < 0 → Q (i3 0) SI SJ) ∧ (¬ a1 < 0 → (a1 ≤ (i3 65535) → Q (i3 1) (gj_u2 SI 3 10 a1) SJ) ∧ (¬ a1 ≤ (i3 65535) → Q (i3 0) SI SJ))) : DoI E 110 [(.ref 0), (.int a1)] SI SJ Q := by
  refine gj_start (M := mt_110) ok_110 (Nat.le_of_ble_eq_true rfl) ?_
  refine gj_goq gj_clT ok_110 [] ?_
  show (a1 < 0 → gj_Goes E om0 mt_110 10 [some (.ref 0), some (.int a1)] [] SI SJ (QI Q)) ∧ (¬ a1 < 0 → (a1 ≤ (i3 65535) → gj_Goes E om0 mt_110 12 [some (.ref 0), some (.int a1)] [] SI SJ (QI Q)) ∧ (¬ a1 ≤ (i3 65535) → ((i3 0) = 0 ∨ (i3 0) = 1) ∧ (QI Q (some (.int (i3 0))) SI SJ)))
  refine ⟨fun c1 => ?_, fun c1 => ?_⟩
  · refine gj_goq gj_clT ok_110 [] ?_
    show ((i3 0) = 0 ∨ (i3 0) = 1) ∧ (QI Q (some (.int (i3 0))) SI SJ)
    refine ⟨(Or.inl rfl), ?_⟩
    exact ⟨_, rfl, (h.1 c1)⟩
  · refine ⟨fun c2 => ?_, fun c2 => ?_⟩
    · refine gj_goq gj_clT ok_110 [] ?_
      show ((i3 1) = 0 ∨ (i3 1) = 1) ∧ (QI Q (some (.int (i3 1))) (gj_u2 SI 3 10 a1) SJ)
      refine ⟨(Or.inr rfl), ?_⟩
      exact ⟨_, rfl, ((h.2 c1).1 c2)⟩
    · refine ⟨(Or.inl rfl), ?_⟩
      exact ⟨_, rfl, ((h.2 c1).2 c2)⟩
set_option maxRecDepth 20000 in
/-- GraspJudge.keep -/
theorem st_111 {E : gj_E} {Q : Int32 → gj_I → gj_J → Prop} (SI : gj_I) (SJ : gj_J) (h : DoV E 60 [(.ref 16), (.ref 3)] SI SJ (fun SI2 SJ2 => Q (SI2 3 5) (gj_u2 SI2 0 11 (i3 1)) SJ2)) : DoI E 111 [(.ref 0)] SI SJ Q := by
  refine gj_start (M := mt_111) ok_111 (Nat.le_of_ble_eq_true rfl) ?_
  refine gj_goq gj_clT ok_111 [11] ?_
  show gj_Do E om0 (gj_mt 60) [(.ref 16), (.ref 3)] SI SJ _
  refine gj_Do.mono h (fun v_ SI2 SJ2 h_ => ?_)
  obtain ⟨rfl, q1⟩ := h_
  show gj_Goes E om0 mt_111 11 [some (.ref 0)] [] SI2 SJ2 (QI Q)
  refine gj_goq gj_clT ok_111 [11] ?_
  show ((i3 1) = 0 ∨ (i3 1) = 1) ∧ (QI Q (some (.int (SI2 3 5))) (gj_u2 SI2 0 11 (i3 1)) SJ2)
  refine ⟨(Or.inr rfl), ?_⟩
  exact ⟨_, rfl, q1⟩
set_option maxRecDepth 20000 in
/-- GraspJudge.undo -/
theorem st_112 {E : gj_E} {Q : Int32 → gj_I → gj_J → Prop} (SI : gj_I) (SJ : gj_J) (h : (¬ (SI 0 11) = 0 → DoV E 60 [(.ref 3), (.ref 16)] SI SJ (fun SI2 SJ2 => DoV E 114 [(.ref 0)] SI2 SJ2 (fun SI4 SJ4 => Q (i3 1) SI4 SJ4))) ∧ ((SI 0 11) = 0 → Q (i3 0) SI SJ)) : DoI E 112 [(.ref 0)] SI SJ Q := by
  refine gj_start (M := mt_112) ok_112 (Nat.le_of_ble_eq_true rfl) ?_
  refine gj_goq gj_clT ok_112 [20, 24] ?_
  show (¬ (SI 0 11) = 0 → gj_Goes E om0 mt_112 9 [some (.ref 0)] [] SI SJ (QI Q)) ∧ ((SI 0 11) = 0 → ((i3 0) = 0 ∨ (i3 0) = 1) ∧ (QI Q (some (.int (i3 0))) SI SJ))
  refine ⟨fun c1 => ?_, fun c1 => ?_⟩
  · refine gj_goq gj_clT ok_112 [20, 24] ?_
    show gj_Do E om0 (gj_mt 60) [(.ref 3), (.ref 16)] SI SJ _
    refine gj_Do.mono (h.1 c1) (fun v_ SI2 SJ2 h_ => ?_)
    obtain ⟨rfl, q2⟩ := h_
    show gj_Goes E om0 mt_112 20 [some (.ref 0)] [] SI2 SJ2 (QI Q)
    refine gj_goq gj_clT ok_112 [20, 24] ?_
    show gj_Do E om0 (gj_mt 114) [(.ref 0)] SI2 SJ2 _
    refine gj_Do.mono q2 (fun v_ SI4 SJ4 h_ => ?_)
    obtain ⟨rfl, q3⟩ := h_
    show gj_Goes E om0 mt_112 24 [some (.ref 0)] [] SI4 SJ4 (QI Q)
    refine gj_goq gj_clT ok_112 [20, 24] ?_
    show ((i3 1) = 0 ∨ (i3 1) = 1) ∧ (QI Q (some (.int (i3 1))) SI4 SJ4)
    refine ⟨(Or.inr rfl), ?_⟩
    exact ⟨_, rfl, q3⟩
  · refine ⟨(Or.inl rfl), ?_⟩
    exact ⟨_, rfl, (h.2 c1)⟩
set_option maxRecDepth 20000 in
/-- GraspJudge.settle -/
theorem st_113 {E : gj_E} {Q : gj_I → gj_J → Prop} (a1 : Int32) (SI : gj_I) (SJ : gj_J) (h : DoV E 114 [(.ref 0)] SI SJ (fun SI2 SJ2 => DoI E 152 [(.int (SI2 0 13))] SI2 SJ2 (fun r3 SI4 SJ4 => DoV E 62 [(.ref 3), (.int a1), (.int r3), (.int (SI4 0 12))] SI4 SJ4 (fun SI6 SJ6 => Q SI6 SJ6)))) : DoV E 113 [(.ref 0), (.int a1)] SI SJ Q := by
  refine gj_start (M := mt_113) ok_113 (Nat.le_of_ble_eq_true rfl) ?_
  refine gj_goq gj_clT ok_113 [4, 16, 23] ?_
  show gj_Do E om0 (gj_mt 114) [(.ref 0)] SI SJ _
  refine gj_Do.mono h (fun v_ SI2 SJ2 h_ => ?_)
  obtain ⟨rfl, q1⟩ := h_
  show gj_Goes E om0 mt_113 4 [some (.ref 0), some (.int a1)] [] SI2 SJ2 (QV Q)
  refine gj_goq gj_clT ok_113 [4, 16, 23] ?_
  show gj_Do E om0 (gj_mt 152) [(.int (SI2 0 13))] SI2 SJ2 _
  refine gj_Do.mono q1 (fun v_ SI4 SJ4 h_ => ?_)
  obtain ⟨r3, rfl, q2⟩ := h_
  show gj_Goes E om0 mt_113 16 [some (.ref 0), some (.int a1)] [(.int r3), (.int a1), (.ref 3)] SI4 SJ4 (QV Q)
  refine gj_goq gj_clT ok_113 [4, 16, 23] ?_
  show gj_Do E om0 (gj_mt 62) [(.ref 3), (.int a1), (.int r3), (.int (SI4 0 12))] SI4 SJ4 _
  refine gj_Do.mono q2 (fun v_ SI6 SJ6 h_ => ?_)
  obtain ⟨rfl, q3⟩ := h_
  show gj_Goes E om0 mt_113 23 [some (.ref 0), some (.int a1)] [] SI6 SJ6 (QV Q)
  refine gj_goq gj_clT ok_113 [4, 16, 23] ?_
  show QV Q none SI6 SJ6
  exact ⟨rfl, q3⟩
set_option maxRecDepth 20000 in
/-- GraspJudge.refresh -/
theorem st_114 {E : gj_E} {Q : gj_I → gj_J → Prop} (SI : gj_I) (SJ : gj_J) (h : DoV E 0 [(.ref 42)] SI SJ (fun SI2 SJ2 => GoV E mt_114 9 [some (.ref 0), some (.int (i3 0))] SI2 SJ2 Q)) : DoV E 114 [(.ref 0)] SI SJ Q := by
  refine gj_start (M := mt_114) ok_114 (Nat.le_of_ble_eq_true rfl) ?_
  refine gj_goq gj_clT ok_114 [7, 9, 64, 77, 85, 100, 103, 113] ?_
  show gj_Do E om0 (gj_mt 0) [(.ref 42)] SI SJ _
  refine gj_Do.mono h (fun v_ SI2 SJ2 h_ => ?_)
  obtain ⟨rfl, q1⟩ := h_
  show gj_Goes E om0 mt_114 7 [some (.ref 0), none] [] SI2 SJ2 (QV Q)
  refine gj_goq gj_clT ok_114 [7, 9, 64, 77, 85, 100, 103, 113] ?_
  show gj_Goes E om0 mt_114 9 [some (.ref 0), some (.int (i3 0))] [] SI2 SJ2 (QV Q)
  exact q1
set_option maxRecDepth 20000 in
theorem lp_114_9 {E : gj_E} {Q : gj_I → gj_J → Prop} (x1 : Int32) (SI : gj_I) (SJ : gj_J) (h : ((SI 3 5) ≤ x1 → DoV E 5 [(.ref 42)] SI SJ (fun SI2 SJ2 => DoI E 9 [(.ref 42)] SI2 SJ2 (fun r3 SI4 SJ4 => DoI E 3 [(.ref 42)] (gj_u2 SI4 0 12 r3) SJ4 (fun r5 SI6 SJ6 => DoI E 10 [(.ref 42), (.int r5)] SI6 SJ6 (fun r7 SI8 SJ8 => (r7 = 0 ∨ r7 = 1) ∧ (DoV E 80 [(.ref 65)] (gj_u2 SI8 0 13 r7) SJ8 (fun SI10 SJ10 => Q SI10 SJ10))))))) ∧ (¬ (SI 3 5) ≤ x1 → vp_in x1 6 ∧ (DoV E 65 [(.ref 3), (.ref 42), (.int x1), (.int (SI 12 (gj_n x1))), (.int (SI 13 (gj_n x1))), (.int (SI 3 6)), (.int (SI 3 7))] SI SJ (fun SI12 SJ12 => GoV E mt_114 9 [some (.ref 0), some (.int (x1 + (i3 1)))] SI12 SJ12 Q)))) : GoV E mt_114 9 [some (.ref 0), some (.int x1)] SI SJ Q := by
  refine gj_goq gj_clT ok_114 [7, 9, 64, 77, 85, 100, 103, 113] ?_
  show ((SI 3 5) ≤ x1 → gj_Goes E om0 mt_114 70 [some (.ref 0), some (.int x1)] [] SI SJ (QV Q)) ∧ (¬ (SI 3 5) ≤ x1 → vp_in x1 6 ∧ (vp_in x1 6 ∧ (gj_Do E om0 (gj_mt 65) [(.ref 3), (.ref 42), (.int x1), (.int (SI 12 (gj_n x1))), (.int (SI 13 (gj_n x1))), (.int (SI 3 6)), (.int (SI 3 7))] SI SJ _)))
  refine ⟨fun c1 => ?_, fun c1 => ?_⟩
  · refine gj_goq gj_clT ok_114 [7, 9, 64, 77, 85, 100, 103, 113] ?_
    show gj_Do E om0 (gj_mt 5) [(.ref 42)] SI SJ _
    refine gj_Do.mono (h.1 c1) (fun v_ SI2 SJ2 h_ => ?_)
    obtain ⟨rfl, q2⟩ := h_
    show gj_Goes E om0 mt_114 77 [some (.ref 0), some (.int x1)] [] SI2 SJ2 (QV Q)
    refine gj_goq gj_clT ok_114 [7, 9, 64, 77, 85, 100, 103, 113] ?_
    show gj_Do E om0 (gj_mt 9) [(.ref 42)] SI2 SJ2 _
    refine gj_Do.mono q2 (fun v_ SI4 SJ4 h_ => ?_)
    obtain ⟨r3, rfl, q3⟩ := h_
    show gj_Goes E om0 mt_114 85 [some (.ref 0), some (.int x1)] [(.int r3), (.ref 0)] SI4 SJ4 (QV Q)
    refine gj_goq gj_clT ok_114 [7, 9, 64, 77, 85, 100, 103, 113] ?_
    show gj_Do E om0 (gj_mt 3) [(.ref 42)] (gj_u2 SI4 0 12 r3) SJ4 _
    refine gj_Do.mono q3 (fun v_ SI6 SJ6 h_ => ?_)
    obtain ⟨r5, rfl, q4⟩ := h_
    show gj_Goes E om0 mt_114 100 [some (.ref 0), some (.int x1)] [(.int r5), (.ref 42), (.ref 0)] SI6 SJ6 (QV Q)
    refine gj_goq gj_clT ok_114 [7, 9, 64, 77, 85, 100, 103, 113] ?_
    show gj_Do E om0 (gj_mt 10) [(.ref 42), (.int r5)] SI6 SJ6 _
    refine gj_Do.mono q4 (fun v_ SI8 SJ8 h_ => ?_)
    obtain ⟨r7, rfl, q5⟩ := h_
    show gj_Goes E om0 mt_114 103 [some (.ref 0), some (.int x1)] [(.int r7), (.ref 0)] SI8 SJ8 (QV Q)
    refine gj_goq gj_clT ok_114 [7, 9, 64, 77, 85, 100, 103, 113] ?_
    show (r7 = 0 ∨ r7 = 1) ∧ (gj_Do E om0 (gj_mt 80) [(.ref 65)] (gj_u2 SI8 0 13 r7) SJ8 _)
    have k6 := q5.1
    refine ⟨k6, ?_⟩
    refine gj_Do.mono q5.2 (fun v_ SI10 SJ10 h_ => ?_)
    obtain ⟨rfl, q7⟩ := h_
    show gj_Goes E om0 mt_114 113 [some (.ref 0), some (.int x1)] [] SI10 SJ10 (QV Q)
    refine gj_goq gj_clT ok_114 [7, 9, 64, 77, 85, 100, 103, 113] ?_
    show QV Q none SI10 SJ10
    exact ⟨rfl, q7⟩
  · have k8 := (h.2 c1).1
    refine ⟨k8, ?_⟩
    refine ⟨k8, ?_⟩
    refine gj_Do.mono (h.2 c1).2 (fun v_ SI12 SJ12 h_ => ?_)
    obtain ⟨rfl, q9⟩ := h_
    show gj_Goes E om0 mt_114 64 [some (.ref 0), some (.int x1)] [] SI12 SJ12 (QV Q)
    refine gj_goq gj_clT ok_114 [7, 9, 64, 77, 85, 100, 103, 113] ?_
    show gj_Goes E om0 mt_114 9 [some (.ref 0), some (.int (x1 + (i3 1)))] [] SI12 SJ12 (QV Q)
    exact q9
set_option maxRecDepth 20000 in
/-- GraspJudge.count -/
theorem st_115 {E : gj_E} {Q : Int32 → gj_I → gj_J → Prop} (a1 : Int32) (SI : gj_I) (SJ : gj_J) (h : (a1 = (i3 0) → Q (SI 4 7) SI SJ) ∧ (a1 = (i3 1) → DoI E 41 [(.ref 4)] SI SJ (fun r1 SI2 SJ2 => Q r1 SI2 SJ2)) ∧ (a1 = (i3 2) → Q (SI 3 5) SI SJ) ∧ (a1 = (i3 3) → Q (SI 42 9) SI SJ) ∧ (a1 = (i3 4) → Q (SI 0 12) SI SJ) ∧ (a1 = (i3 5) → DoI E 152 [(.int (SI 0 13))] SI SJ (fun r3 SI4 SJ4 => Q r3 SI4 SJ4)) ∧ (a1 = (i3 6) → Q (SI 4 8) SI SJ) ∧ (a1 = (i3 7) → Q (SI 3 6) SI SJ) ∧ (a1 = (i3 8) → Q (SI 3 7) SI SJ) ∧ (a1 = (i3 9) → Q (SI 3 8) SI SJ) ∧ (a1 = (i3 10) → Q (SI 3 9) SI SJ) ∧ (a1 = (i3 11) → ((SI 0 13) = 0 → Q (i3 (-2)) SI SJ) ∧ (¬ (SI 0 13) = 0 → DoI E 128 [(.ref 0)] SI SJ (fun r5 SI6 SJ6 => Q r5 SI6 SJ6))) ∧ (a1 = (i3 12) → ((SI 0 13) = 0 → Q (i3 (-2)) SI SJ) ∧ (¬ (SI 0 13) = 0 → DoI E 129 [(.ref 0)] SI SJ (fun r7 SI8 SJ8 => DoI E 284 [(.int r7)] SI8 SJ8 (fun r9 SI10 SJ10 => Q r9 SI10 SJ10)))) ∧ (a1 = (i3 13) → ((SI 0 13) = 0 → Q (i3 (-2)) SI SJ) ∧ (¬ (SI 0 13) = 0 → DoI E 129 [(.ref 0)] SI SJ (fun r11 SI12 SJ12 => Q r11 SI12 SJ12))) ∧ (a1 = (i3 14) → Q (SI 1 1) SI SJ) ∧ (a1 = (i3 15) → Q (SI 3 10) SI SJ) ∧ (a1 = (i3 16) → DoI E 121 [(.ref 0)] SI SJ (fun r13 SI14 SJ14 => Q r13 SI14 SJ14)) ∧ (a1.toInt < 0 ∨ 16 < a1.toInt → Q (i3 (-1)) SI SJ)) : DoI E 115 [(.ref 0), (.int a1)] SI SJ Q := by
  refine gj_start (M := mt_115) ok_115 (Nat.le_of_ble_eq_true rfl) ?_
  refine gj_goq gj_clT ok_115 [105, 134, 189, 206, 209, 226, 252] ?_
  show ((a1 = Int32.ofInt (0) → gj_Goes E om0 mt_115 84 [some (.ref 0), some (.int a1)] [] SI SJ (QI Q)) ∧ (a1 = Int32.ofInt (1) → gj_Goes E om0 mt_115 95 [some (.ref 0), some (.int a1)] [] SI SJ (QI Q)) ∧ (a1 = Int32.ofInt (2) → gj_Goes E om0 mt_115 106 [some (.ref 0), some (.int a1)] [] SI SJ (QI Q)) ∧ (a1 = Int32.ofInt (3) → gj_Goes E om0 mt_115 114 [some (.ref 0), some (.int a1)] [] SI SJ (QI Q)) ∧ (a1 = Int32.ofInt (4) → gj_Goes E om0 mt_115 122 [some (.ref 0), some (.int a1)] [] SI SJ (QI Q)) ∧ (a1 = Int32.ofInt (5) → gj_Goes E om0 mt_115 127 [some (.ref 0), some (.int a1)] [] SI SJ (QI Q)) ∧ (a1 = Int32.ofInt (6) → gj_Goes E om0 mt_115 135 [some (.ref 0), some (.int a1)] [] SI SJ (QI Q)) ∧ (a1 = Int32.ofInt (7) → gj_Goes E om0 mt_115 146 [some (.ref 0), some (.int a1)] [] SI SJ (QI Q)) ∧ (a1 = Int32.ofInt (8) → gj_Goes E om0 mt_115 154 [some (.ref 0), some (.int a1)] [] SI SJ (QI Q)) ∧ (a1 = Int32.ofInt (9) → gj_Goes E om0 mt_115 162 [some (.ref 0), some (.int a1)] [] SI SJ (QI Q)) ∧ (a1 = Int32.ofInt (10) → gj_Goes E om0 mt_115 170 [some (.ref 0), some (.int a1)] [] SI SJ (QI Q)) ∧ (a1 = Int32.ofInt (11) → gj_Goes E om0 mt_115 178 [some (.ref 0), some (.int a1)] [] SI SJ (QI Q)) ∧ (a1 = Int32.ofInt (12) → gj_Goes E om0 mt_115 195 [some (.ref 0), some (.int a1)] [] SI SJ (QI Q)) ∧ (a1 = Int32.ofInt (13) → gj_Goes E om0 mt_115 215 [some (.ref 0), some (.int a1)] [] SI SJ (QI Q)) ∧ (a1 = Int32.ofInt (14) → gj_Goes E om0 mt_115 232 [some (.ref 0), some (.int a1)] [] SI SJ (QI Q)) ∧ (a1 = Int32.ofInt (15) → gj_Goes E om0 mt_115 240 [some (.ref 0), some (.int a1)] [] SI SJ (QI Q)) ∧ (a1 = Int32.ofInt (16) → gj_Goes E om0 mt_115 248 [some (.ref 0), some (.int a1)] [] SI SJ (QI Q)) ∧ True) ∧ (a1.toInt < 0 ∨ 16 < a1.toInt → gj_Goes E om0 mt_115 253 [some (.ref 0), some (.int a1)] [] SI SJ (QI Q))
  refine ⟨⟨fun c1 => ?_, ⟨fun c1 => ?_, ⟨fun c1 => ?_, ⟨fun c1 => ?_, ⟨fun c1 => ?_, ⟨fun c1 => ?_, ⟨fun c1 => ?_, ⟨fun c1 => ?_, ⟨fun c1 => ?_, ⟨fun c1 => ?_, ⟨fun c1 => ?_, ⟨fun c1 => ?_, ⟨fun c1 => ?_, ⟨fun c1 => ?_, ⟨fun c1 => ?_, ⟨fun c1 => ?_, ⟨fun c1 => ?_, trivial⟩⟩⟩⟩⟩⟩⟩⟩⟩⟩⟩⟩⟩⟩⟩⟩⟩, fun c1 => ?_⟩
  · refine gj_goq gj_clT ok_115 [105, 134, 189, 206, 209, 226, 252] ?_
    show QI Q (some (.int (SI 4 7))) SI SJ
    exact ⟨_, rfl, (h.1 c1)⟩
  · refine gj_goq gj_clT ok_115 [105, 134, 189, 206, 209, 226, 252] ?_
    show gj_Do E om0 (gj_mt 41) [(.ref 4)] SI SJ _
    refine gj_Do.mono (h.2.1 c1) (fun v_ SI2 SJ2 h_ => ?_)
    obtain ⟨r1, rfl, q2⟩ := h_
    show gj_Goes E om0 mt_115 105 [some (.ref 0), some (.int a1)] [(.int r1)] SI2 SJ2 (QI Q)
    refine gj_goq gj_clT ok_115 [105, 134, 189, 206, 209, 226, 252] ?_
    show QI Q (some (.int r1)) SI2 SJ2
    exact ⟨_, rfl, q2⟩
  · refine gj_goq gj_clT ok_115 [105, 134, 189, 206, 209, 226, 252] ?_
    show QI Q (some (.int (SI 3 5))) SI SJ
    exact ⟨_, rfl, (h.2.2.1 c1)⟩
  · refine gj_goq gj_clT ok_115 [105, 134, 189, 206, 209, 226, 252] ?_
    show QI Q (some (.int (SI 42 9))) SI SJ
    exact ⟨_, rfl, (h.2.2.2.1 c1)⟩
  · refine gj_goq gj_clT ok_115 [105, 134, 189, 206, 209, 226, 252] ?_
    show QI Q (some (.int (SI 0 12))) SI SJ
    exact ⟨_, rfl, (h.2.2.2.2.1 c1)⟩
  · refine gj_goq gj_clT ok_115 [105, 134, 189, 206, 209, 226, 252] ?_
    show gj_Do E om0 (gj_mt 152) [(.int (SI 0 13))] SI SJ _
    refine gj_Do.mono (h.2.2.2.2.2.1 c1) (fun v_ SI4 SJ4 h_ => ?_)
    obtain ⟨r3, rfl, q3⟩ := h_
    show gj_Goes E om0 mt_115 134 [some (.ref 0), some (.int a1)] [(.int r3)] SI4 SJ4 (QI Q)
    refine gj_goq gj_clT ok_115 [105, 134, 189, 206, 209, 226, 252] ?_
    show QI Q (some (.int r3)) SI4 SJ4
    exact ⟨_, rfl, q3⟩
  · refine gj_goq gj_clT ok_115 [105, 134, 189, 206, 209, 226, 252] ?_
    show QI Q (some (.int (SI 4 8))) SI SJ
    exact ⟨_, rfl, (h.2.2.2.2.2.2.1 c1)⟩
  · refine gj_goq gj_clT ok_115 [105, 134, 189, 206, 209, 226, 252] ?_
    show QI Q (some (.int (SI 3 6))) SI SJ
    exact ⟨_, rfl, (h.2.2.2.2.2.2.2.1 c1)⟩
  · refine gj_goq gj_clT ok_115 [105, 134, 189, 206, 209, 226, 252] ?_
    show QI Q (some (.int (SI 3 7))) SI SJ
    exact ⟨_, rfl, (h.2.2.2.2.2.2.2.2.1 c1)⟩
  · refine gj_goq gj_clT ok_115 [105, 134, 189, 206, 209, 226, 252] ?_
    show QI Q (some (.int (SI 3 8))) SI SJ
    exact ⟨_, rfl, (h.2.2.2.2.2.2.2.2.2.1 c1)⟩
  · refine gj_goq gj_clT ok_115 [105, 134, 189, 206, 209, 226, 252] ?_
    show QI Q (some (.int (SI 3 9))) SI SJ
    exact ⟨_, rfl, (h.2.2.2.2.2.2.2.2.2.2.1 c1)⟩
  · refine gj_goq gj_clT ok_115 [105, 134, 189, 206, 209, 226, 252] ?_
    show ((SI 0 13) = 0 → gj_Goes E om0 mt_115 192 [some (.ref 0), some (.int a1)] [] SI SJ (QI Q)) ∧ (¬ (SI 0 13) = 0 → gj_Do E om0 (gj_mt 128) [(.ref 0)] SI SJ _)
    refine ⟨fun c4 => ?_, fun c4 => ?_⟩
    · refine gj_goq gj_clT ok_115 [105, 134, 189, 206, 209, 226, 252] ?_
      show QI Q (some (.int (i3 (-2)))) SI SJ
      exact ⟨_, rfl, ((h.2.2.2.2.2.2.2.2.2.2.2.1 c1).1 c4)⟩
    · refine gj_Do.mono ((h.2.2.2.2.2.2.2.2.2.2.2.1 c1).2 c4) (fun v_ SI6 SJ6 h_ => ?_)
      obtain ⟨r5, rfl, q5⟩ := h_
      show gj_Goes E om0 mt_115 189 [some (.ref 0), some (.int a1)] [(.int r5)] SI6 SJ6 (QI Q)
      refine gj_goq gj_clT ok_115 [105, 134, 189, 206, 209, 226, 252] ?_
      show gj_Goes E om0 mt_115 194 [some (.ref 0), some (.int a1)] [(.int r5)] SI6 SJ6 (QI Q)
      refine gj_goq gj_clT ok_115 [105, 134, 189, 206, 209, 226, 252] ?_
      show QI Q (some (.int r5)) SI6 SJ6
      exact ⟨_, rfl, q5⟩
  · refine gj_goq gj_clT ok_115 [105, 134, 189, 206, 209, 226, 252] ?_
    show ((SI 0 13) = 0 → gj_Goes E om0 mt_115 212 [some (.ref 0), some (.int a1)] [] SI SJ (QI Q)) ∧ (¬ (SI 0 13) = 0 → gj_Do E om0 (gj_mt 129) [(.ref 0)] SI SJ _)
    refine ⟨fun c6 => ?_, fun c6 => ?_⟩
    · refine gj_goq gj_clT ok_115 [105, 134, 189, 206, 209, 226, 252] ?_
      show QI Q (some (.int (i3 (-2)))) SI SJ
      exact ⟨_, rfl, ((h.2.2.2.2.2.2.2.2.2.2.2.2.1 c1).1 c6)⟩
    · refine gj_Do.mono ((h.2.2.2.2.2.2.2.2.2.2.2.2.1 c1).2 c6) (fun v_ SI8 SJ8 h_ => ?_)
      obtain ⟨r7, rfl, q7⟩ := h_
      show gj_Goes E om0 mt_115 206 [some (.ref 0), some (.int a1)] [(.int r7)] SI8 SJ8 (QI Q)
      refine gj_goq gj_clT ok_115 [105, 134, 189, 206, 209, 226, 252] ?_
      show gj_Do E om0 (gj_mt 284) [(.int r7)] SI8 SJ8 _
      refine gj_Do.mono q7 (fun v_ SI10 SJ10 h_ => ?_)
      obtain ⟨r9, rfl, q8⟩ := h_
      show gj_Goes E om0 mt_115 209 [some (.ref 0), some (.int a1)] [(.int r9)] SI10 SJ10 (QI Q)
      refine gj_goq gj_clT ok_115 [105, 134, 189, 206, 209, 226, 252] ?_
      show gj_Goes E om0 mt_115 214 [some (.ref 0), some (.int a1)] [(.int r9)] SI10 SJ10 (QI Q)
      refine gj_goq gj_clT ok_115 [105, 134, 189, 206, 209, 226, 252] ?_
      show QI Q (some (.int r9)) SI10 SJ10
      exact ⟨_, rfl, q8⟩
  · refine gj_goq gj_clT ok_115 [105, 134, 189, 206, 209, 226, 252] ?_
    show ((SI 0 13) = 0 → gj_Goes E om0 mt_115 229 [some (.ref 0), some (.int a1)] [] SI SJ (QI Q)) ∧ (¬ (SI 0 13) = 0 → gj_Do E om0 (gj_mt 129) [(.ref 0)] SI SJ _)
    refine ⟨fun c9 => ?_, fun c9 => ?_⟩
    · refine gj_goq gj_clT ok_115 [105, 134, 189, 206, 209, 226, 252] ?_
      show QI Q (some (.int (i3 (-2)))) SI SJ
      exact ⟨_, rfl, ((h.2.2.2.2.2.2.2.2.2.2.2.2.2.1 c1).1 c9)⟩
    · refine gj_Do.mono ((h.2.2.2.2.2.2.2.2.2.2.2.2.2.1 c1).2 c9) (fun v_ SI12 SJ12 h_ => ?_)
      obtain ⟨r11, rfl, q10⟩ := h_
      show gj_Goes E om0 mt_115 226 [some (.ref 0), some (.int a1)] [(.int r11)] SI12 SJ12 (QI Q)
      refine gj_goq gj_clT ok_115 [105, 134, 189, 206, 209, 226, 252] ?_
      show gj_Goes E om0 mt_115 231 [some (.ref 0), some (.int a1)] [(.int r11)] SI12 SJ12 (QI Q)
      refine gj_goq gj_clT ok_115 [105, 134, 189, 206, 209, 226, 252] ?_
      show QI Q (some (.int r11)) SI12 SJ12
      exact ⟨_, rfl, q10⟩
  · refine gj_goq gj_clT ok_115 [105, 134, 189, 206, 209, 226, 252] ?_
    show QI Q (some (.int (SI 1 1))) SI SJ
    exact ⟨_, rfl, (h.2.2.2.2.2.2.2.2.2.2.2.2.2.2.1 c1)⟩
  · refine gj_goq gj_clT ok_115 [105, 134, 189, 206, 209, 226, 252] ?_
    show QI Q (some (.int (SI 3 10))) SI SJ
    exact ⟨_, rfl, (h.2.2.2.2.2.2.2.2.2.2.2.2.2.2.2.1 c1)⟩
  · refine gj_goq gj_clT ok_115 [105, 134, 189, 206, 209, 226, 252] ?_
    show gj_Do E om0 (gj_mt 121) [(.ref 0)] SI SJ _
    refine gj_Do.mono (h.2.2.2.2.2.2.2.2.2.2.2.2.2.2.2.2.1 c1) (fun v_ SI14 SJ14 h_ => ?_)
    obtain ⟨r13, rfl, q11⟩ := h_
    show gj_Goes E om0 mt_115 252 [some (.ref 0), some (.int a1)] [(.int r13)] SI14 SJ14 (QI Q)
    refine gj_goq gj_clT ok_115 [105, 134, 189, 206, 209, 226, 252] ?_
    show QI Q (some (.int r13)) SI14 SJ14
    exact ⟨_, rfl, q11⟩
  · refine gj_goq gj_clT ok_115 [105, 134, 189, 206, 209, 226, 252] ?_
    show QI Q (some (.int (i3 (-1)))) SI SJ
    exact ⟨_, rfl, (h.2.2.2.2.2.2.2.2.2.2.2.2.2.2.2.2.2 c1)⟩
set_option maxRecDepth 20000 in
/-- GraspJudge.corner -/
theorem st_116 {E : gj_E} {Q : Int32 → gj_I → gj_J → Prop} (a1 : Int32) (a2 : Int32) (SI : gj_I) (SJ : gj_J) (h : (a1 < 0 → Q (i3 (-1)) SI SJ) ∧ (¬ a1 < 0 → (a1 < (SI 4 7) → (¬ a2 = 0 → (¬ a2 = (i3 1) → Q (i3 (-1)) SI SJ) ∧ (a2 = (i3 1) → vp_in a1 8 ∧ (Q (SI 6 (gj_n a1)) SI SJ))) ∧ (a2 = 0 → vp_in a1 8 ∧ (Q (SI 5 (gj_n a1)) SI SJ))) ∧ (¬ a1 < (SI 4 7) → Q (i3 (-1)) SI SJ))) : DoI E 116 [(.ref 0), (.int a1), (.int a2)] SI SJ Q := by
  refine gj_start (M := mt_116) ok_116 (Nat.le_of_ble_eq_true rfl) ?_
  refine gj_goq gj_clT ok_116 [] ?_
  show (a1 < 0 → gj_Goes E om0 mt_116 18 [some (.ref 0), some (.int a1), some (.int a2)] [] SI SJ (QI Q)) ∧ (¬ a1 < 0 → (a1 < (SI 4 7) → gj_Goes E om0 mt_116 20 [some (.ref 0), some (.int a1), some (.int a2)] [] SI SJ (QI Q)) ∧ (¬ a1 < (SI 4 7) → QI Q (some (.int (i3 (-1)))) SI SJ))
  refine ⟨fun c1 => ?_, fun c1 => ?_⟩
  · refine gj_goq gj_clT ok_116 [] ?_
    show QI Q (some (.int (i3 (-1)))) SI SJ
    exact ⟨_, rfl, (h.1 c1)⟩
  · refine ⟨fun c2 => ?_, fun c2 => ?_⟩
    · refine gj_goq gj_clT ok_116 [] ?_
      show (¬ a2 = 0 → gj_Goes E om0 mt_116 37 [some (.ref 0), some (.int a1), some (.int a2)] [] SI SJ (QI Q)) ∧ (a2 = 0 → vp_in a1 8 ∧ (QI Q (some (.int (SI 5 (gj_n a1)))) SI SJ))
      refine ⟨fun c3 => ?_, fun c3 => ?_⟩
      · refine gj_goq gj_clT ok_116 [] ?_
        show (¬ a2 = (i3 1) → gj_Goes E om0 mt_116 57 [some (.ref 0), some (.int a1), some (.int a2)] [] SI SJ (QI Q)) ∧ (a2 = (i3 1) → vp_in a1 8 ∧ (gj_Goes E om0 mt_116 58 [some (.ref 0), some (.int a1), some (.int a2)] [(.int (SI 6 (gj_n a1)))] SI SJ (QI Q)))
        refine ⟨fun c4 => ?_, fun c4 => ?_⟩
        · refine gj_goq gj_clT ok_116 [] ?_
          show QI Q (some (.int (i3 (-1)))) SI SJ
          exact ⟨_, rfl, ((((h.2 c1).1 c2).1 c3).1 c4)⟩
        · have k5 := ((((h.2 c1).1 c2).1 c3).2 c4).1
          refine ⟨k5, ?_⟩
          refine gj_goq gj_clT ok_116 [] ?_
          show QI Q (some (.int (SI 6 (gj_n a1)))) SI SJ
          exact ⟨_, rfl, ((((h.2 c1).1 c2).1 c3).2 c4).2⟩
      · have k6 := (((h.2 c1).1 c2).2 c3).1
        refine ⟨k6, ?_⟩
        exact ⟨_, rfl, (((h.2 c1).1 c2).2 c3).2⟩
    · exact ⟨_, rfl, ((h.2 c1).2 c2)⟩
set_option maxRecDepth 20000 in
/-- GraspJudge.edge -/
theorem st_117 {E : gj_E} {Q : Int64 → gj_I → gj_J → Prop} (a1 : Int32) (a2 : Int32) (SI : gj_I) (SJ : gj_J) (h : (a1 < 0 → Q (i6 (-9000000000000000000)) SI SJ) ∧ (¬ a1 < 0 → (a1 < (SI 4 7) → (a2 = (i3 0) → vp_in a1 8 ∧ (Q (SI 7 (gj_n a1)).toInt64 SI SJ)) ∧ (a2 = (i3 1) → vp_in a1 8 ∧ (Q (SI 8 (gj_n a1)).toInt64 SI SJ)) ∧ (a2 = (i3 2) → vp_in a1 8 ∧ (Q (-(SI 8 (gj_n a1))).toInt64 SI SJ)) ∧ (a2 = (i3 3) → vp_in a1 8 ∧ (Q (SI 7 (gj_n a1)).toInt64 SI SJ)) ∧ (a2 = (i3 4) → vp_in a1 8 ∧ (Q (SI 9 (gj_n a1)).toInt64 SI SJ)) ∧ (a2.toInt < 0 ∨ 4 < a2.toInt → Q (i6 (-9000000000000000000)) SI SJ)) ∧ (¬ a1 < (SI 4 7) → Q (i6 (-9000000000000000000)) SI SJ))) : DoL E 117 [(.ref 0), (.int a1), (.int a2)] SI SJ Q := by
  refine gj_start (M := mt_117) ok_117 (Nat.le_of_ble_eq_true rfl) ?_
  refine gj_goq gj_clT ok_117 [] ?_
  show (a1 < 0 → gj_Goes E om0 mt_117 18 [some (.ref 0), some (.int a1), some (.int a2), none] [] SI SJ (QL Q)) ∧ (¬ a1 < 0 → (a1 < (SI 4 7) → gj_Goes E om0 mt_117 22 [some (.ref 0), some (.int a1), some (.int a2), none] [] SI SJ (QL Q)) ∧ (¬ a1 < (SI 4 7) → QL Q (some (.long (i6 (-9000000000000000000)))) SI SJ))
  refine ⟨fun c1 => ?_, fun c1 => ?_⟩
  · refine gj_goq gj_clT ok_117 [] ?_
    show QL Q (some (.long (i6 (-9000000000000000000)))) SI SJ
    exact ⟨_, rfl, (h.1 c1)⟩
  · refine ⟨fun c2 => ?_, fun c2 => ?_⟩
    · refine gj_goq gj_clT ok_117 [] ?_
      show ((a2 = Int32.ofInt (0) → gj_Goes E om0 mt_117 64 [some (.ref 0), some (.int a1), some (.int a2), some (.ref 4)] [] SI SJ (QL Q)) ∧ (a2 = Int32.ofInt (1) → gj_Goes E om0 mt_117 72 [some (.ref 0), some (.int a1), some (.int a2), some (.ref 4)] [] SI SJ (QL Q)) ∧ (a2 = Int32.ofInt (2) → gj_Goes E om0 mt_117 80 [some (.ref 0), some (.int a1), some (.int a2), some (.ref 4)] [] SI SJ (QL Q)) ∧ (a2 = Int32.ofInt (3) → gj_Goes E om0 mt_117 89 [some (.ref 0), some (.int a1), some (.int a2), some (.ref 4)] [] SI SJ (QL Q)) ∧ (a2 = Int32.ofInt (4) → gj_Goes E om0 mt_117 97 [some (.ref 0), some (.int a1), some (.int a2), some (.ref 4)] [] SI SJ (QL Q)) ∧ True) ∧ (a2.toInt < 0 ∨ 4 < a2.toInt → gj_Goes E om0 mt_117 105 [some (.ref 0), some (.int a1), some (.int a2), some (.ref 4)] [] SI SJ (QL Q))
      refine ⟨⟨fun c3 => ?_, ⟨fun c3 => ?_, ⟨fun c3 => ?_, ⟨fun c3 => ?_, ⟨fun c3 => ?_, trivial⟩⟩⟩⟩⟩, fun c3 => ?_⟩
      · refine gj_goq gj_clT ok_117 [] ?_
        show vp_in a1 8 ∧ (QL Q (some (.long (SI 7 (gj_n a1)).toInt64)) SI SJ)
        have k4 := (((h.2 c1).1 c2).1 c3).1
        refine ⟨k4, ?_⟩
        exact ⟨_, rfl, (((h.2 c1).1 c2).1 c3).2⟩
      · refine gj_goq gj_clT ok_117 [] ?_
        show vp_in a1 8 ∧ (QL Q (some (.long (SI 8 (gj_n a1)).toInt64)) SI SJ)
        have k5 := (((h.2 c1).1 c2).2.1 c3).1
        refine ⟨k5, ?_⟩
        exact ⟨_, rfl, (((h.2 c1).1 c2).2.1 c3).2⟩
      · refine gj_goq gj_clT ok_117 [] ?_
        show vp_in a1 8 ∧ (QL Q (some (.long (-(SI 8 (gj_n a1))).toInt64)) SI SJ)
        have k6 := (((h.2 c1).1 c2).2.2.1 c3).1
        refine ⟨k6, ?_⟩
        exact ⟨_, rfl, (((h.2 c1).1 c2).2.2.1 c3).2⟩
      · refine gj_goq gj_clT ok_117 [] ?_
        show vp_in a1 8 ∧ (QL Q (some (.long (SI 7 (gj_n a1)).toInt64)) SI SJ)
        have k7 := (((h.2 c1).1 c2).2.2.2.1 c3).1
        refine ⟨k7, ?_⟩
        exact ⟨_, rfl, (((h.2 c1).1 c2).2.2.2.1 c3).2⟩
      · refine gj_goq gj_clT ok_117 [] ?_
        show vp_in a1 8 ∧ (QL Q (some (.long (SI 9 (gj_n a1)).toInt64)) SI SJ)
        have k8 := (((h.2 c1).1 c2).2.2.2.2.1 c3).1
        refine ⟨k8, ?_⟩
        exact ⟨_, rfl, (((h.2 c1).1 c2).2.2.2.2.1 c3).2⟩
      · refine gj_goq gj_clT ok_117 [] ?_
        show QL Q (some (.long (i6 (-9000000000000000000)))) SI SJ
        exact ⟨_, rfl, (((h.2 c1).1 c2).2.2.2.2.2 c3)⟩
    · exact ⟨_, rfl, ((h.2 c1).2 c2)⟩
set_option maxRecDepth 20000 in
/-- GraspJudge.place -/
theorem st_118 {E : gj_E} {Q : Int32 → gj_I → gj_J → Prop} (a1 : Int32) (a2 : Int32) (SI : gj_I) (SJ : gj_J) (h : (a1 < 0 → Q (i3 (-1)) SI SJ) ∧ (¬ a1 < 0 → (a1 < (SI 4 8) → vp_in a1 72 ∧ ((a2 = (i3 0) → Q (SI 10 (gj_n a1)) SI SJ) ∧ (a2 = (i3 1) → Q (SI 11 (gj_n a1)) SI SJ) ∧ (a2 = (i3 2) → DoI E 31 [(.ref 4), (.int (SI 10 (gj_n a1))), (.int (SI 11 (gj_n a1)))] SI SJ (fun r1 SI2 SJ2 => Q r1 SI2 SJ2)) ∧ (a2 = (i3 3) → DoI E 32 [(.ref 4), (.int (SI 10 (gj_n a1))), (.int (SI 11 (gj_n a1)))] SI SJ (fun r3 SI4 SJ4 => Q r3 SI4 SJ4)) ∧ (a2 = (i3 4) → DoI E 63 [(.ref 3), (.int (SI 10 (gj_n a1))), (.int (SI 11 (gj_n a1)))] SI SJ (fun r5 SI6 SJ6 => (0 ≤ r5 → Q r5 SI6 SJ6) ∧ (¬ 0 ≤ r5 → Q (i3 (-2)) SI6 SJ6))) ∧ (a2 = (i3 5) → DoI E 122 [(.ref 0), (.int a1), (.int (i3 0))] SI SJ (fun r7 SI8 SJ8 => Q r7 SI8 SJ8)) ∧ (a2 = (i3 6) → DoI E 123 [(.ref 0), (.int a1)] SI SJ (fun r9 SI10 SJ10 => Q r9 SI10 SJ10)) ∧ (a2.toInt < 0 ∨ 6 < a2.toInt → Q (i3 (-1)) SI SJ))) ∧ (¬ a1 < (SI 4 8) → Q (i3 (-1)) SI SJ))) : DoI E 118 [(.ref 0), (.int a1), (.int a2)] SI SJ Q := by
  refine gj_start (M := mt_118) ok_118 (Nat.le_of_ble_eq_true rfl) ?_
  refine gj_goq gj_clT ok_118 [94, 103, 115, 136, 142] ?_
  show (a1 < 0 → gj_Goes E om0 mt_118 20 [some (.ref 0), some (.int a1), some (.int a2), some (.ref 4), none, none, none] [] SI SJ (QI Q)) ∧ (¬ a1 < 0 → (a1 < (SI 4 8) → gj_Goes E om0 mt_118 22 [some (.ref 0), some (.int a1), some (.int a2), some (.ref 4), none, none, none] [] SI SJ (QI Q)) ∧ (¬ a1 < (SI 4 8) → QI Q (some (.int (i3 (-1)))) SI SJ))
  refine ⟨fun c1 => ?_, fun c1 => ?_⟩
  · refine gj_goq gj_clT ok_118 [94, 103, 115, 136, 142] ?_
    show QI Q (some (.int (i3 (-1)))) SI SJ
    exact ⟨_, rfl, (h.1 c1)⟩
  · refine ⟨fun c2 => ?_, fun c2 => ?_⟩
    · refine gj_goq gj_clT ok_118 [94, 103, 115, 136, 142] ?_
      show vp_in a1 72 ∧ (vp_in a1 72 ∧ (((a2 = Int32.ofInt (0) → gj_Goes E om0 mt_118 80 [some (.ref 0), some (.int a1), some (.int a2), some (.ref 4), some (.int (SI 10 (gj_n a1))), some (.int (SI 11 (gj_n a1))), none] [] SI SJ (QI Q)) ∧ (a2 = Int32.ofInt (1) → gj_Goes E om0 mt_118 83 [some (.ref 0), some (.int a1), some (.int a2), some (.ref 4), some (.int (SI 10 (gj_n a1))), some (.int (SI 11 (gj_n a1))), none] [] SI SJ (QI Q)) ∧ (a2 = Int32.ofInt (2) → gj_Goes E om0 mt_118 86 [some (.ref 0), some (.int a1), some (.int a2), some (.ref 4), some (.int (SI 10 (gj_n a1))), some (.int (SI 11 (gj_n a1))), none] [] SI SJ (QI Q)) ∧ (a2 = Int32.ofInt (3) → gj_Goes E om0 mt_118 95 [some (.ref 0), some (.int a1), some (.int a2), some (.ref 4), some (.int (SI 10 (gj_n a1))), some (.int (SI 11 (gj_n a1))), none] [] SI SJ (QI Q)) ∧ (a2 = Int32.ofInt (4) → gj_Goes E om0 mt_118 104 [some (.ref 0), some (.int a1), some (.int a2), some (.ref 4), some (.int (SI 10 (gj_n a1))), some (.int (SI 11 (gj_n a1))), none] [] SI SJ (QI Q)) ∧ (a2 = Int32.ofInt (5) → gj_Goes E om0 mt_118 130 [some (.ref 0), some (.int a1), some (.int a2), some (.ref 4), some (.int (SI 10 (gj_n a1))), some (.int (SI 11 (gj_n a1))), none] [] SI SJ (QI Q)) ∧ (a2 = Int32.ofInt (6) → gj_Goes E om0 mt_118 137 [some (.ref 0), some (.int a1), some (.int a2), some (.ref 4), some (.int (SI 10 (gj_n a1))), some (.int (SI 11 (gj_n a1))), none] [] SI SJ (QI Q)) ∧ True) ∧ (a2.toInt < 0 ∨ 6 < a2.toInt → gj_Goes E om0 mt_118 143 [some (.ref 0), some (.int a1), some (.int a2), some (.ref 4), some (.int (SI 10 (gj_n a1))), some (.int (SI 11 (gj_n a1))), none] [] SI SJ (QI Q))))
      have k3 := ((h.2 c1).1 c2).1
      refine ⟨k3, ?_⟩
      refine ⟨k3, ?_⟩
      refine ⟨⟨fun c4 => ?_, ⟨fun c4 => ?_, ⟨fun c4 => ?_, ⟨fun c4 => ?_, ⟨fun c4 => ?_, ⟨fun c4 => ?_, ⟨fun c4 => ?_, trivial⟩⟩⟩⟩⟩⟩⟩, fun c4 => ?_⟩
      · refine gj_goq gj_clT ok_118 [94, 103, 115, 136, 142] ?_
        show QI Q (some (.int (SI 10 (gj_n a1)))) SI SJ
        exact ⟨_, rfl, (((h.2 c1).1 c2).2.1 c4)⟩
      · refine gj_goq gj_clT ok_118 [94, 103, 115, 136, 142] ?_
        show QI Q (some (.int (SI 11 (gj_n a1)))) SI SJ
        exact ⟨_, rfl, (((h.2 c1).1 c2).2.2.1 c4)⟩
      · refine gj_goq gj_clT ok_118 [94, 103, 115, 136, 142] ?_
        show gj_Do E om0 (gj_mt 31) [(.ref 4), (.int (SI 10 (gj_n a1))), (.int (SI 11 (gj_n a1)))] SI SJ _
        refine gj_Do.mono (((h.2 c1).1 c2).2.2.2.1 c4) (fun v_ SI2 SJ2 h_ => ?_)
        obtain ⟨r1, rfl, q5⟩ := h_
        show gj_Goes E om0 mt_118 94 [some (.ref 0), some (.int a1), some (.int a2), some (.ref 4), some (.int (SI 10 (gj_n a1))), some (.int (SI 11 (gj_n a1))), none] [(.int r1)] SI2 SJ2 (QI Q)
        refine gj_goq gj_clT ok_118 [94, 103, 115, 136, 142] ?_
        show QI Q (some (.int r1)) SI2 SJ2
        exact ⟨_, rfl, q5⟩
      · refine gj_goq gj_clT ok_118 [94, 103, 115, 136, 142] ?_
        show gj_Do E om0 (gj_mt 32) [(.ref 4), (.int (SI 10 (gj_n a1))), (.int (SI 11 (gj_n a1)))] SI SJ _
        refine gj_Do.mono (((h.2 c1).1 c2).2.2.2.2.1 c4) (fun v_ SI4 SJ4 h_ => ?_)
        obtain ⟨r3, rfl, q6⟩ := h_
        show gj_Goes E om0 mt_118 103 [some (.ref 0), some (.int a1), some (.int a2), some (.ref 4), some (.int (SI 10 (gj_n a1))), some (.int (SI 11 (gj_n a1))), none] [(.int r3)] SI4 SJ4 (QI Q)
        refine gj_goq gj_clT ok_118 [94, 103, 115, 136, 142] ?_
        show QI Q (some (.int r3)) SI4 SJ4
        exact ⟨_, rfl, q6⟩
      · refine gj_goq gj_clT ok_118 [94, 103, 115, 136, 142] ?_
        show gj_Do E om0 (gj_mt 63) [(.ref 3), (.int (SI 10 (gj_n a1))), (.int (SI 11 (gj_n a1)))] SI SJ _
        refine gj_Do.mono (((h.2 c1).1 c2).2.2.2.2.2.1 c4) (fun v_ SI6 SJ6 h_ => ?_)
        obtain ⟨r5, rfl, q7⟩ := h_
        show gj_Goes E om0 mt_118 115 [some (.ref 0), some (.int a1), some (.int a2), some (.ref 4), some (.int (SI 10 (gj_n a1))), some (.int (SI 11 (gj_n a1))), none] [(.int r5)] SI6 SJ6 (QI Q)
        refine gj_goq gj_clT ok_118 [94, 103, 115, 136, 142] ?_
        show (0 ≤ r5 → gj_Goes E om0 mt_118 127 [some (.ref 0), some (.int a1), some (.int a2), some (.ref 4), some (.int (SI 10 (gj_n a1))), some (.int (SI 11 (gj_n a1))), some (.int r5)] [] SI6 SJ6 (QI Q)) ∧ (¬ 0 ≤ r5 → gj_Goes E om0 mt_118 129 [some (.ref 0), some (.int a1), some (.int a2), some (.ref 4), some (.int (SI 10 (gj_n a1))), some (.int (SI 11 (gj_n a1))), some (.int r5)] [(.int (i3 (-2)))] SI6 SJ6 (QI Q))
        refine ⟨fun c8 => ?_, fun c8 => ?_⟩
        · refine gj_goq gj_clT ok_118 [94, 103, 115, 136, 142] ?_
          show QI Q (some (.int r5)) SI6 SJ6
          exact ⟨_, rfl, (q7.1 c8)⟩
        · refine gj_goq gj_clT ok_118 [94, 103, 115, 136, 142] ?_
          show QI Q (some (.int (i3 (-2)))) SI6 SJ6
          exact ⟨_, rfl, (q7.2 c8)⟩
      · refine gj_goq gj_clT ok_118 [94, 103, 115, 136, 142] ?_
        show gj_Do E om0 (gj_mt 122) [(.ref 0), (.int a1), (.int (i3 0))] SI SJ _
        refine gj_Do.mono (((h.2 c1).1 c2).2.2.2.2.2.2.1 c4) (fun v_ SI8 SJ8 h_ => ?_)
        obtain ⟨r7, rfl, q9⟩ := h_
        show gj_Goes E om0 mt_118 136 [some (.ref 0), some (.int a1), some (.int a2), some (.ref 4), some (.int (SI 10 (gj_n a1))), some (.int (SI 11 (gj_n a1))), none] [(.int r7)] SI8 SJ8 (QI Q)
        refine gj_goq gj_clT ok_118 [94, 103, 115, 136, 142] ?_
        show QI Q (some (.int r7)) SI8 SJ8
        exact ⟨_, rfl, q9⟩
      · refine gj_goq gj_clT ok_118 [94, 103, 115, 136, 142] ?_
        show gj_Do E om0 (gj_mt 123) [(.ref 0), (.int a1)] SI SJ _
        refine gj_Do.mono (((h.2 c1).1 c2).2.2.2.2.2.2.2.1 c4) (fun v_ SI10 SJ10 h_ => ?_)
        obtain ⟨r9, rfl, q10⟩ := h_
        show gj_Goes E om0 mt_118 142 [some (.ref 0), some (.int a1), some (.int a2), some (.ref 4), some (.int (SI 10 (gj_n a1))), some (.int (SI 11 (gj_n a1))), none] [(.int r9)] SI10 SJ10 (QI Q)
        refine gj_goq gj_clT ok_118 [94, 103, 115, 136, 142] ?_
        show QI Q (some (.int r9)) SI10 SJ10
        exact ⟨_, rfl, q10⟩
      · refine gj_goq gj_clT ok_118 [94, 103, 115, 136, 142] ?_
        show QI Q (some (.int (i3 (-1)))) SI SJ
        exact ⟨_, rfl, (((h.2 c1).1 c2).2.2.2.2.2.2.2.2 c4)⟩
    · exact ⟨_, rfl, ((h.2 c1).2 c2)⟩
set_option maxRecDepth 20000 in
/-- GraspJudge.inside -/
theorem st_119 {E : gj_E} {Q : Int32 → gj_I → gj_J → Prop} (a1 : Int32) (a2 : Int32) (SI : gj_I) (SJ : gj_J) (h : ((i3 20) < (if a1 < a2 then a2 else a1) → Q (i3 (-1)) SI SJ) ∧ (¬ (i3 20) < (if a1 < a2 then a2 else a1) → ((i3 (-20)) ≤ (if a2 < a1 then a2 else a1) → DoI E 43 [(.ref 4), (.int a1), (.int a2)] SI SJ (fun r1 SI2 SJ2 => Q r1 SI2 SJ2)) ∧ (¬ (i3 (-20)) ≤ (if a2 < a1 then a2 else a1) → Q (i3 (-1)) SI SJ))) : DoI E 119 [(.ref 0), (.int a1), (.int a2)] SI SJ Q := by
  refine gj_start (M := mt_119) ok_119 (Nat.le_of_ble_eq_true rfl) ?_
  refine gj_goq gj_clT ok_119 [34] ?_
  show ((i3 20) < (if a1 < a2 then a2 else a1) → gj_Goes E om0 mt_119 20 [some (.ref 0), some (.int a1), some (.int a2)] [] SI SJ (QI Q)) ∧ (¬ (i3 20) < (if a1 < a2 then a2 else a1) → ((i3 (-20)) ≤ (if a2 < a1 then a2 else a1) → gj_Goes E om0 mt_119 22 [some (.ref 0), some (.int a1), some (.int a2)] [] SI SJ (QI Q)) ∧ (¬ (i3 (-20)) ≤ (if a2 < a1 then a2 else a1) → QI Q (some (.int (i3 (-1)))) SI SJ))
  refine ⟨fun c1 => ?_, fun c1 => ?_⟩
  · refine gj_goq gj_clT ok_119 [34] ?_
    show QI Q (some (.int (i3 (-1)))) SI SJ
    exact ⟨_, rfl, (h.1 c1)⟩
  · refine ⟨fun c2 => ?_, fun c2 => ?_⟩
    · refine gj_goq gj_clT ok_119 [34] ?_
      show gj_Do E om0 (gj_mt 43) [(.ref 4), (.int a1), (.int a2)] SI SJ _
      refine gj_Do.mono ((h.2 c1).1 c2) (fun v_ SI2 SJ2 h_ => ?_)
      obtain ⟨r1, rfl, q3⟩ := h_
      show gj_Goes E om0 mt_119 34 [some (.ref 0), some (.int a1), some (.int a2)] [(.int r1)] SI2 SJ2 (QI Q)
      refine gj_goq gj_clT ok_119 [34] ?_
      show QI Q (some (.int r1)) SI2 SJ2
      exact ⟨_, rfl, q3⟩
    · exact ⟨_, rfl, ((h.2 c1).2 c2)⟩
set_option maxRecDepth 20000 in
/-- GraspJudge.opposite -/
theorem st_120 {E : gj_E} {Q : Int32 → gj_I → gj_J → Prop} (a1 : Int32) (a2 : Int32) (SI : gj_I) (SJ : gj_J) (h : (a1 < 0 → Q (i3 (-1)) SI SJ) ∧ (¬ a1 < 0 → ((SI 4 8) ≤ a1 → Q (i3 (-1)) SI SJ) ∧ (¬ (SI 4 8) ≤ a1 → (a2 < 0 → Q (i3 (-1)) SI SJ) ∧ (¬ a2 < 0 → (a2 < (SI 4 8) → DoI E 66 [(.ref 3), (.int a1), (.int a2)] SI SJ (fun r1 SI2 SJ2 => DoI E 152 [(.int r1)] SI2 SJ2 (fun r3 SI4 SJ4 => Q r3 SI4 SJ4))) ∧ (¬ a2 < (SI 4 8) → Q (i3 (-1)) SI SJ))))) : DoI E 120 [(.ref 0), (.int a1), (.int a2)] SI SJ Q := by
  refine gj_start (M := mt_120) ok_120 (Nat.le_of_ble_eq_true rfl) ?_
  refine gj_goq gj_clT ok_120 [40, 43] ?_
  show (a1 < 0 → gj_Goes E om0 mt_120 29 [some (.ref 0), some (.int a1), some (.int a2), some (.int (SI 4 8))] [] SI SJ (QI Q)) ∧ (¬ a1 < 0 → ((SI 4 8) ≤ a1 → gj_Goes E om0 mt_120 29 [some (.ref 0), some (.int a1), some (.int a2), some (.int (SI 4 8))] [] SI SJ (QI Q)) ∧ (¬ (SI 4 8) ≤ a1 → (a2 < 0 → gj_Goes E om0 mt_120 29 [some (.ref 0), some (.int a1), some (.int a2), some (.int (SI 4 8))] [] SI SJ (QI Q)) ∧ (¬ a2 < 0 → (a2 < (SI 4 8) → gj_Goes E om0 mt_120 31 [some (.ref 0), some (.int a1), some (.int a2), some (.int (SI 4 8))] [] SI SJ (QI Q)) ∧ (¬ a2 < (SI 4 8) → QI Q (some (.int (i3 (-1)))) SI SJ))))
  refine ⟨fun c1 => ?_, fun c1 => ?_⟩
  · refine gj_goq gj_clT ok_120 [40, 43] ?_
    show QI Q (some (.int (i3 (-1)))) SI SJ
    exact ⟨_, rfl, (h.1 c1)⟩
  · refine ⟨fun c2 => ?_, fun c2 => ?_⟩
    · refine gj_goq gj_clT ok_120 [40, 43] ?_
      show QI Q (some (.int (i3 (-1)))) SI SJ
      exact ⟨_, rfl, ((h.2 c1).1 c2)⟩
    · refine ⟨fun c3 => ?_, fun c3 => ?_⟩
      · refine gj_goq gj_clT ok_120 [40, 43] ?_
        show QI Q (some (.int (i3 (-1)))) SI SJ
        exact ⟨_, rfl, (((h.2 c1).2 c2).1 c3)⟩
      · refine ⟨fun c4 => ?_, fun c4 => ?_⟩
        · refine gj_goq gj_clT ok_120 [40, 43] ?_
          show gj_Do E om0 (gj_mt 66) [(.ref 3), (.int a1), (.int a2)] SI SJ _
          refine gj_Do.mono ((((h.2 c1).2 c2).2 c3).1 c4) (fun v_ SI2 SJ2 h_ => ?_)
          obtain ⟨r1, rfl, q5⟩ := h_
          show gj_Goes E om0 mt_120 40 [some (.ref 0), some (.int a1), some (.int a2), some (.int (SI 4 8))] [(.int r1)] SI2 SJ2 (QI Q)
          refine gj_goq gj_clT ok_120 [40, 43] ?_
          show gj_Do E om0 (gj_mt 152) [(.int r1)] SI2 SJ2 _
          refine gj_Do.mono q5 (fun v_ SI4 SJ4 h_ => ?_)
          obtain ⟨r3, rfl, q6⟩ := h_
          show gj_Goes E om0 mt_120 43 [some (.ref 0), some (.int a1), some (.int a2), some (.int (SI 4 8))] [(.int r3)] SI4 SJ4 (QI Q)
          refine gj_goq gj_clT ok_120 [40, 43] ?_
          show QI Q (some (.int r3)) SI4 SJ4
          exact ⟨_, rfl, q6⟩
        · exact ⟨_, rfl, ((((h.2 c1).2 c2).2 c3).2 c4)⟩
set_option maxRecDepth 20000 in
/-- GraspJudge.oppositeCouples -/
theorem st_121 {E : gj_E} {Q : Int32 → gj_I → gj_J → Prop} (SI : gj_I) (SJ : gj_J) (h : GoI E mt_121 4 [some (.ref 0), some (.int (i3 0)), some (.int (i3 0))] SI SJ Q) : DoI E 121 [(.ref 0)] SI SJ Q := by
  refine gj_start (M := mt_121) ok_121 (Nat.le_of_ble_eq_true rfl) ?_
  refine gj_goq gj_clT ok_121 [4, 27] ?_
  show gj_Goes E om0 mt_121 4 [some (.ref 0), some (.int (i3 0)), some (.int (i3 0))] [] SI SJ (QI Q)
  exact h
set_option maxRecDepth 20000 in
theorem lp_121_4 {E : gj_E} {Q : Int32 → gj_I → gj_J → Prop} (x1 : Int32) (x2 : Int32) (SI : gj_I) (SJ : gj_J) (h : ((SI 4 8) ≤ x2 → Q x1 SI SJ) ∧ (¬ (SI 4 8) ≤ x2 → DoI E 122 [(.ref 0), (.int x2), (.int (x2 + (i3 1)))] SI SJ (fun r1 SI2 SJ2 => GoI E mt_121 4 [some (.ref 0), some (.int (x1 + r1)), some (.int (x2 + (i3 1)))] SI2 SJ2 Q))) : GoI E mt_121 4 [some (.ref 0), some (.int x1), some (.int x2)] SI SJ Q := by
  refine gj_goq gj_clT ok_121 [4, 27] ?_
  show ((SI 4 8) ≤ x2 → gj_Goes E om0 mt_121 35 [some (.ref 0), some (.int x1), some (.int x2)] [] SI SJ (QI Q)) ∧ (¬ (SI 4 8) ≤ x2 → gj_Do E om0 (gj_mt 122) [(.ref 0), (.int x2), (.int (x2 + (i3 1)))] SI SJ _)
  refine ⟨fun c1 => ?_, fun c1 => ?_⟩
  · refine gj_goq gj_clT ok_121 [4, 27] ?_
    show QI Q (some (.int x1)) SI SJ
    exact ⟨_, rfl, (h.1 c1)⟩
  · refine gj_Do.mono (h.2 c1) (fun v_ SI2 SJ2 h_ => ?_)
    obtain ⟨r1, rfl, q2⟩ := h_
    show gj_Goes E om0 mt_121 27 [some (.ref 0), some (.int x1), some (.int x2)] [(.int r1), (.int x1)] SI2 SJ2 (QI Q)
    refine gj_goq gj_clT ok_121 [4, 27] ?_
    show gj_Goes E om0 mt_121 4 [some (.ref 0), some (.int (x1 + r1)), some (.int (x2 + (i3 1)))] [] SI2 SJ2 (QI Q)
    exact q2
set_option maxRecDepth 20000 in
/-- GraspJudge.oppositeFrom -/
theorem st_122 {E : gj_E} {Q : Int32 → gj_I → gj_J → Prop} (a1 : Int32) (a2 : Int32) (SI : gj_I) (SJ : gj_J) (h : GoI E mt_122 5 [some (.ref 0), some (.int a1), none, some (.int (i3 0)), some (.int a2)] SI SJ Q) : DoI E 122 [(.ref 0), (.int a1), (.int a2)] SI SJ Q := by
  refine gj_start (M := mt_122) ok_122 (Nat.le_of_ble_eq_true rfl) ?_
  refine gj_goq gj_clT ok_122 [5, 30] ?_
  show gj_Goes E om0 mt_122 5 [some (.ref 0), some (.int a1), some (.int a2), some (.int (i3 0)), some (.int a2)] [] SI SJ (QI Q)
  exact gj_fh h (And.intro (Or.inr rfl) (And.intro (Or.inr rfl) (And.intro (Or.inl rfl) (And.intro (Or.inr rfl) (And.intro (Or.inr rfl) trivial)))))
set_option maxRecDepth 20000 in
theorem lp_122_5 {E : gj_E} {Q : Int32 → gj_I → gj_J → Prop} (x1 : Int32) (x3 : Int32) (x4 : Int32) (SI : gj_I) (SJ : gj_J) (h : ((SI 4 8) ≤ x4 → Q x3 SI SJ) ∧ (¬ (SI 4 8) ≤ x4 → DoI E 66 [(.ref 3), (.int x1), (.int x4)] SI SJ (fun r1 SI2 SJ2 => (r1 = 0 → GoI E mt_122 5 [some (.ref 0), some (.int x1), none, some (.int x3), some (.int (x4 + (i3 1)))] SI2 SJ2 Q) ∧ (¬ r1 = 0 → GoI E mt_122 5 [some (.ref 0), some (.int x1), none, some (.int (x3 + (i3 1))), some (.int (x4 + (i3 1)))] SI2 SJ2 Q)))) : GoI E mt_122 5 [some (.ref 0), some (.int x1), none, some (.int x3), some (.int x4)] SI SJ Q := by
  refine gj_goq gj_clT ok_122 [5, 30] ?_
  show ((SI 4 8) ≤ x4 → gj_Goes E om0 mt_122 42 [some (.ref 0), some (.int x1), none, some (.int x3), some (.int x4)] [] SI SJ (QI Q)) ∧ (¬ (SI 4 8) ≤ x4 → gj_Do E om0 (gj_mt 66) [(.ref 3), (.int x1), (.int x4)] SI SJ _)
  refine ⟨fun c1 => ?_, fun c1 => ?_⟩
  · refine gj_goq gj_clT ok_122 [5, 30] ?_
    show QI Q (some (.int x3)) SI SJ
    exact ⟨_, rfl, (h.1 c1)⟩
  · refine gj_Do.mono (h.2 c1) (fun v_ SI2 SJ2 h_ => ?_)
    obtain ⟨r1, rfl, q2⟩ := h_
    show gj_Goes E om0 mt_122 30 [some (.ref 0), some (.int x1), none, some (.int x3), some (.int x4)] [(.int r1)] SI2 SJ2 (QI Q)
    refine gj_goq gj_clT ok_122 [5, 30] ?_
    show (r1 = 0 → gj_Goes E om0 mt_122 36 [some (.ref 0), some (.int x1), none, some (.int x3), some (.int x4)] [] SI2 SJ2 (QI Q)) ∧ (¬ r1 = 0 → gj_Goes E om0 mt_122 5 [some (.ref 0), some (.int x1), none, some (.int (x3 + (i3 1))), some (.int (x4 + (i3 1)))] [] SI2 SJ2 (QI Q))
    refine ⟨fun c3 => ?_, fun c3 => ?_⟩
    · refine gj_goq gj_clT ok_122 [5, 30] ?_
      show gj_Goes E om0 mt_122 5 [some (.ref 0), some (.int x1), none, some (.int x3), some (.int (x4 + (i3 1)))] [] SI2 SJ2 (QI Q)
      exact (q2.1 c3)
    · exact (q2.2 c3)
set_option maxRecDepth 20000 in
/-- GraspJudge.firstOpposite -/
theorem st_123 {E : gj_E} {Q : Int32 → gj_I → gj_J → Prop} (a1 : Int32) (SI : gj_I) (SJ : gj_J) (h : GoI E mt_123 2 [some (.ref 0), some (.int a1), some (.int (i3 0))] SI SJ Q) : DoI E 123 [(.ref 0), (.int a1)] SI SJ Q := by
  refine gj_start (M := mt_123) ok_123 (Nat.le_of_ble_eq_true rfl) ?_
  refine gj_goq gj_clT ok_123 [2, 25] ?_
  show gj_Goes E om0 mt_123 2 [some (.ref 0), some (.int a1), some (.int (i3 0))] [] SI SJ (QI Q)
  exact h
set_option maxRecDepth 20000 in
theorem lp_123_2 {E : gj_E} {Q : Int32 → gj_I → gj_J → Prop} (x1 : Int32) (x2 : Int32) (SI : gj_I) (SJ : gj_J) (h : ((SI 4 8) ≤ x2 → Q (i3 (-2)) SI SJ) ∧ (¬ (SI 4 8) ≤ x2 → DoI E 66 [(.ref 3), (.int x1), (.int x2)] SI SJ (fun r1 SI2 SJ2 => (r1 = 0 → GoI E mt_123 2 [some (.ref 0), some (.int x1), some (.int (x2 + (i3 1)))] SI2 SJ2 Q) ∧ (¬ r1 = 0 → Q x2 SI2 SJ2)))) : GoI E mt_123 2 [some (.ref 0), some (.int x1), some (.int x2)] SI SJ Q := by
  refine gj_goq gj_clT ok_123 [2, 25] ?_
  show ((SI 4 8) ≤ x2 → gj_Goes E om0 mt_123 36 [some (.ref 0), some (.int x1), some (.int x2)] [] SI SJ (QI Q)) ∧ (¬ (SI 4 8) ≤ x2 → gj_Do E om0 (gj_mt 66) [(.ref 3), (.int x1), (.int x2)] SI SJ _)
  refine ⟨fun c1 => ?_, fun c1 => ?_⟩
  · refine gj_goq gj_clT ok_123 [2, 25] ?_
    show QI Q (some (.int (i3 (-2)))) SI SJ
    exact ⟨_, rfl, (h.1 c1)⟩
  · refine gj_Do.mono (h.2 c1) (fun v_ SI2 SJ2 h_ => ?_)
    obtain ⟨r1, rfl, q2⟩ := h_
    show gj_Goes E om0 mt_123 25 [some (.ref 0), some (.int x1), some (.int x2)] [(.int r1)] SI2 SJ2 (QI Q)
    refine gj_goq gj_clT ok_123 [2, 25] ?_
    show (r1 = 0 → gj_Goes E om0 mt_123 30 [some (.ref 0), some (.int x1), some (.int x2)] [] SI2 SJ2 (QI Q)) ∧ (¬ r1 = 0 → QI Q (some (.int x2)) SI2 SJ2)
    refine ⟨fun c3 => ?_, fun c3 => ?_⟩
    · refine gj_goq gj_clT ok_123 [2, 25] ?_
      show gj_Goes E om0 mt_123 2 [some (.ref 0), some (.int x1), some (.int (x2 + (i3 1)))] [] SI2 SJ2 (QI Q)
      exact (q2.1 c3)
    · exact ⟨_, rfl, (q2.2 c3)⟩
set_option maxRecDepth 20000 in
/-- GraspJudge.finger -/
theorem st_124 {E : gj_E} {Q : Int32 → gj_I → gj_J → Prop} (a1 : Int32) (a2 : Int32) (SI : gj_I) (SJ : gj_J) (h : (a1 < 0 → Q (i3 (-1)) SI SJ) ∧ (¬ a1 < 0 → (a1 < (SI 3 5) → vp_in a1 6 ∧ ((a2 = (i3 0) → Q (SI 12 (gj_n a1)) SI SJ) ∧ (a2 = (i3 1) → Q (SI 13 (gj_n a1)) SI SJ) ∧ (a2 = (i3 2) → DoI E 31 [(.ref 4), (.int (SI 12 (gj_n a1))), (.int (SI 13 (gj_n a1)))] SI SJ (fun r1 SI2 SJ2 => Q r1 SI2 SJ2)) ∧ (a2 = (i3 3) → DoI E 32 [(.ref 4), (.int (SI 12 (gj_n a1))), (.int (SI 13 (gj_n a1)))] SI SJ (fun r3 SI4 SJ4 => Q r3 SI4 SJ4)) ∧ (a2 = (i3 4) → DoI E 64 [(.ref 3)] SI SJ (fun r5 SI6 SJ6 => Q r5 SI6 SJ6)) ∧ (a2 = (i3 5) → DoI E 126 [(.ref 0)] SI SJ (fun r7 SI8 SJ8 => DoI E 127 [(.ref 0), (.int (r7 &&& (((i3 1) <<< (a1 &&& 31)) ^^^ (i3 (-1)))))] SI8 SJ8 (fun r9 SI10 SJ10 => DoI E 152 [(.int r9)] SI10 SJ10 (fun r11 SI12 SJ12 => Q r11 SI12 SJ12)))) ∧ (a2.toInt < 0 ∨ 5 < a2.toInt → Q (i3 (-1)) SI SJ))) ∧ (¬ a1 < (SI 3 5) → Q (i3 (-1)) SI SJ))) : DoI E 124 [(.ref 0), (.int a1), (.int a2)] SI SJ Q := by
  refine gj_start (M := mt_124) ok_124 (Nat.le_of_ble_eq_true rfl) ?_
  refine gj_goq gj_clT ok_124 [94, 108, 116, 122, 131, 134] ?_
  show (a1 < 0 → gj_Goes E om0 mt_124 15 [some (.ref 0), some (.int a1), some (.int a2), none, none] [] SI SJ (QI Q)) ∧ (¬ a1 < 0 → (a1 < (SI 3 5) → gj_Goes E om0 mt_124 17 [some (.ref 0), some (.int a1), some (.int a2), none, none] [] SI SJ (QI Q)) ∧ (¬ a1 < (SI 3 5) → QI Q (some (.int (i3 (-1)))) SI SJ))
  refine ⟨fun c1 => ?_, fun c1 => ?_⟩
  · refine gj_goq gj_clT ok_124 [94, 108, 116, 122, 131, 134] ?_
    show QI Q (some (.int (i3 (-1)))) SI SJ
    exact ⟨_, rfl, (h.1 c1)⟩
  · refine ⟨fun c2 => ?_, fun c2 => ?_⟩
    · refine gj_goq gj_clT ok_124 [94, 108, 116, 122, 131, 134] ?_
      show vp_in a1 6 ∧ (vp_in a1 6 ∧ (((a2 = Int32.ofInt (0) → gj_Goes E om0 mt_124 76 [some (.ref 0), some (.int a1), some (.int a2), some (.int (SI 12 (gj_n a1))), some (.int (SI 13 (gj_n a1)))] [] SI SJ (QI Q)) ∧ (a2 = Int32.ofInt (1) → gj_Goes E om0 mt_124 78 [some (.ref 0), some (.int a1), some (.int a2), some (.int (SI 12 (gj_n a1))), some (.int (SI 13 (gj_n a1)))] [] SI SJ (QI Q)) ∧ (a2 = Int32.ofInt (2) → gj_Goes E om0 mt_124 81 [some (.ref 0), some (.int a1), some (.int a2), some (.int (SI 12 (gj_n a1))), some (.int (SI 13 (gj_n a1)))] [] SI SJ (QI Q)) ∧ (a2 = Int32.ofInt (3) → gj_Goes E om0 mt_124 95 [some (.ref 0), some (.int a1), some (.int a2), some (.int (SI 12 (gj_n a1))), some (.int (SI 13 (gj_n a1)))] [] SI SJ (QI Q)) ∧ (a2 = Int32.ofInt (4) → gj_Goes E om0 mt_124 109 [some (.ref 0), some (.int a1), some (.int a2), some (.int (SI 12 (gj_n a1))), some (.int (SI 13 (gj_n a1)))] [] SI SJ (QI Q)) ∧ (a2 = Int32.ofInt (5) → gj_Goes E om0 mt_124 117 [some (.ref 0), some (.int a1), some (.int a2), some (.int (SI 12 (gj_n a1))), some (.int (SI 13 (gj_n a1)))] [] SI SJ (QI Q)) ∧ True) ∧ (a2.toInt < 0 ∨ 5 < a2.toInt → gj_Goes E om0 mt_124 135 [some (.ref 0), some (.int a1), some (.int a2), some (.int (SI 12 (gj_n a1))), some (.int (SI 13 (gj_n a1)))] [] SI SJ (QI Q))))
      have k3 := ((h.2 c1).1 c2).1
      refine ⟨k3, ?_⟩
      refine ⟨k3, ?_⟩
      refine ⟨⟨fun c4 => ?_, ⟨fun c4 => ?_, ⟨fun c4 => ?_, ⟨fun c4 => ?_, ⟨fun c4 => ?_, ⟨fun c4 => ?_, trivial⟩⟩⟩⟩⟩⟩, fun c4 => ?_⟩
      · refine gj_goq gj_clT ok_124 [94, 108, 116, 122, 131, 134] ?_
        show QI Q (some (.int (SI 12 (gj_n a1)))) SI SJ
        exact ⟨_, rfl, (((h.2 c1).1 c2).2.1 c4)⟩
      · refine gj_goq gj_clT ok_124 [94, 108, 116, 122, 131, 134] ?_
        show QI Q (some (.int (SI 13 (gj_n a1)))) SI SJ
        exact ⟨_, rfl, (((h.2 c1).1 c2).2.2.1 c4)⟩
      · refine gj_goq gj_clT ok_124 [94, 108, 116, 122, 131, 134] ?_
        show gj_Do E om0 (gj_mt 31) [(.ref 4), (.int (SI 12 (gj_n a1))), (.int (SI 13 (gj_n a1)))] SI SJ _
        refine gj_Do.mono (((h.2 c1).1 c2).2.2.2.1 c4) (fun v_ SI2 SJ2 h_ => ?_)
        obtain ⟨r1, rfl, q5⟩ := h_
        show gj_Goes E om0 mt_124 94 [some (.ref 0), some (.int a1), some (.int a2), some (.int (SI 12 (gj_n a1))), some (.int (SI 13 (gj_n a1)))] [(.int r1)] SI2 SJ2 (QI Q)
        refine gj_goq gj_clT ok_124 [94, 108, 116, 122, 131, 134] ?_
        show QI Q (some (.int r1)) SI2 SJ2
        exact ⟨_, rfl, q5⟩
      · refine gj_goq gj_clT ok_124 [94, 108, 116, 122, 131, 134] ?_
        show gj_Do E om0 (gj_mt 32) [(.ref 4), (.int (SI 12 (gj_n a1))), (.int (SI 13 (gj_n a1)))] SI SJ _
        refine gj_Do.mono (((h.2 c1).1 c2).2.2.2.2.1 c4) (fun v_ SI4 SJ4 h_ => ?_)
        obtain ⟨r3, rfl, q6⟩ := h_
        show gj_Goes E om0 mt_124 108 [some (.ref 0), some (.int a1), some (.int a2), some (.int (SI 12 (gj_n a1))), some (.int (SI 13 (gj_n a1)))] [(.int r3)] SI4 SJ4 (QI Q)
        refine gj_goq gj_clT ok_124 [94, 108, 116, 122, 131, 134] ?_
        show QI Q (some (.int r3)) SI4 SJ4
        exact ⟨_, rfl, q6⟩
      · refine gj_goq gj_clT ok_124 [94, 108, 116, 122, 131, 134] ?_
        show gj_Do E om0 (gj_mt 64) [(.ref 3)] SI SJ _
        refine gj_Do.mono (((h.2 c1).1 c2).2.2.2.2.2.1 c4) (fun v_ SI6 SJ6 h_ => ?_)
        obtain ⟨r5, rfl, q7⟩ := h_
        show gj_Goes E om0 mt_124 116 [some (.ref 0), some (.int a1), some (.int a2), some (.int (SI 12 (gj_n a1))), some (.int (SI 13 (gj_n a1)))] [(.int r5)] SI6 SJ6 (QI Q)
        refine gj_goq gj_clT ok_124 [94, 108, 116, 122, 131, 134] ?_
        show QI Q (some (.int r5)) SI6 SJ6
        exact ⟨_, rfl, q7⟩
      · refine gj_goq gj_clT ok_124 [94, 108, 116, 122, 131, 134] ?_
        show gj_Do E om0 (gj_mt 126) [(.ref 0)] SI SJ _
        refine gj_Do.mono (((h.2 c1).1 c2).2.2.2.2.2.2.1 c4) (fun v_ SI8 SJ8 h_ => ?_)
        obtain ⟨r7, rfl, q8⟩ := h_
        show gj_Goes E om0 mt_124 122 [some (.ref 0), some (.int a1), some (.int a2), some (.int (SI 12 (gj_n a1))), some (.int (SI 13 (gj_n a1)))] [(.int r7), (.ref 0)] SI8 SJ8 (QI Q)
        refine gj_goq gj_clT ok_124 [94, 108, 116, 122, 131, 134] ?_
        show gj_Do E om0 (gj_mt 127) [(.ref 0), (.int (r7 &&& (((i3 1) <<< (a1 &&& 31)) ^^^ (i3 (-1)))))] SI8 SJ8 _
        refine gj_Do.mono q8 (fun v_ SI10 SJ10 h_ => ?_)
        obtain ⟨r9, rfl, q9⟩ := h_
        show gj_Goes E om0 mt_124 131 [some (.ref 0), some (.int a1), some (.int a2), some (.int (SI 12 (gj_n a1))), some (.int (SI 13 (gj_n a1)))] [(.int r9)] SI10 SJ10 (QI Q)
        refine gj_goq gj_clT ok_124 [94, 108, 116, 122, 131, 134] ?_
        show gj_Do E om0 (gj_mt 152) [(.int r9)] SI10 SJ10 _
        refine gj_Do.mono q9 (fun v_ SI12 SJ12 h_ => ?_)
        obtain ⟨r11, rfl, q10⟩ := h_
        show gj_Goes E om0 mt_124 134 [some (.ref 0), some (.int a1), some (.int a2), some (.int (SI 12 (gj_n a1))), some (.int (SI 13 (gj_n a1)))] [(.int r11)] SI12 SJ12 (QI Q)
        refine gj_goq gj_clT ok_124 [94, 108, 116, 122, 131, 134] ?_
        show QI Q (some (.int r11)) SI12 SJ12
        exact ⟨_, rfl, q10⟩
      · refine gj_goq gj_clT ok_124 [94, 108, 116, 122, 131, 134] ?_
        show QI Q (some (.int (i3 (-1)))) SI SJ
        exact ⟨_, rfl, (((h.2 c1).1 c2).2.2.2.2.2.2.2 c4)⟩
    · exact ⟨_, rfl, ((h.2 c1).2 c2)⟩
set_option maxRecDepth 20000 in
/-- GraspJudge.wrench -/
theorem st_125 {E : gj_E} {Q : Int64 → gj_I → gj_J → Prop} (a1 : Int32) (a2 : Int32) (SI : gj_I) (SJ : gj_J) (h : (a1 < 0 → Q (i6 (-9000000000000000000)) SI SJ) ∧ (¬ a1 < 0 → (a1 < (SI 42 9) → (a2 = (i3 0) → vp_in a1 14 ∧ (Q (SJ 43 (gj_n a1)) SI SJ)) ∧ (a2 = (i3 1) → vp_in a1 14 ∧ (Q (SJ 44 (gj_n a1)) SI SJ)) ∧ (a2 = (i3 2) → vp_in a1 14 ∧ (Q (SJ 45 (gj_n a1)) SI SJ)) ∧ (a2 = (i3 3) → vp_in a1 14 ∧ (Q (SI 46 (gj_n a1)).toInt64 SI SJ)) ∧ (a2.toInt < 0 ∨ 3 < a2.toInt → Q (i6 (-9000000000000000000)) SI SJ)) ∧ (¬ a1 < (SI 42 9) → Q (i6 (-9000000000000000000)) SI SJ))) : DoL E 125 [(.ref 0), (.int a1), (.int a2)] SI SJ Q := by
  refine gj_start (M := mt_125) ok_125 (Nat.le_of_ble_eq_true rfl) ?_
  refine gj_goq gj_clT ok_125 [] ?_
  show (a1 < 0 → gj_Goes E om0 mt_125 15 [some (.ref 0), some (.int a1), some (.int a2)] [] SI SJ (QL Q)) ∧ (¬ a1 < 0 → (a1 < (SI 42 9) → gj_Goes E om0 mt_125 19 [some (.ref 0), some (.int a1), some (.int a2)] [] SI SJ (QL Q)) ∧ (¬ a1 < (SI 42 9) → QL Q (some (.long (i6 (-9000000000000000000)))) SI SJ))
  refine ⟨fun c1 => ?_, fun c1 => ?_⟩
  · refine gj_goq gj_clT ok_125 [] ?_
    show QL Q (some (.long (i6 (-9000000000000000000)))) SI SJ
    exact ⟨_, rfl, (h.1 c1)⟩
  · refine ⟨fun c2 => ?_, fun c2 => ?_⟩
    · refine gj_goq gj_clT ok_125 [] ?_
      show ((a2 = Int32.ofInt (0) → gj_Goes E om0 mt_125 52 [some (.ref 0), some (.int a1), some (.int a2)] [] SI SJ (QL Q)) ∧ (a2 = Int32.ofInt (1) → gj_Goes E om0 mt_125 62 [some (.ref 0), some (.int a1), some (.int a2)] [] SI SJ (QL Q)) ∧ (a2 = Int32.ofInt (2) → gj_Goes E om0 mt_125 72 [some (.ref 0), some (.int a1), some (.int a2)] [] SI SJ (QL Q)) ∧ (a2 = Int32.ofInt (3) → gj_Goes E om0 mt_125 82 [some (.ref 0), some (.int a1), some (.int a2)] [] SI SJ (QL Q)) ∧ True) ∧ (a2.toInt < 0 ∨ 3 < a2.toInt → gj_Goes E om0 mt_125 93 [some (.ref 0), some (.int a1), some (.int a2)] [] SI SJ (QL Q))
      refine ⟨⟨fun c3 => ?_, ⟨fun c3 => ?_, ⟨fun c3 => ?_, ⟨fun c3 => ?_, trivial⟩⟩⟩⟩, fun c3 => ?_⟩
      · refine gj_goq gj_clT ok_125 [] ?_
        show vp_in a1 14 ∧ (QL Q (some (.long (SJ 43 (gj_n a1)))) SI SJ)
        have k4 := (((h.2 c1).1 c2).1 c3).1
        refine ⟨k4, ?_⟩
        exact ⟨_, rfl, (((h.2 c1).1 c2).1 c3).2⟩
      · refine gj_goq gj_clT ok_125 [] ?_
        show vp_in a1 14 ∧ (QL Q (some (.long (SJ 44 (gj_n a1)))) SI SJ)
        have k5 := (((h.2 c1).1 c2).2.1 c3).1
        refine ⟨k5, ?_⟩
        exact ⟨_, rfl, (((h.2 c1).1 c2).2.1 c3).2⟩
      · refine gj_goq gj_clT ok_125 [] ?_
        show vp_in a1 14 ∧ (QL Q (some (.long (SJ 45 (gj_n a1)))) SI SJ)
        have k6 := (((h.2 c1).1 c2).2.2.1 c3).1
        refine ⟨k6, ?_⟩
        exact ⟨_, rfl, (((h.2 c1).1 c2).2.2.1 c3).2⟩
      · refine gj_goq gj_clT ok_125 [] ?_
        show vp_in a1 14 ∧ (QL Q (some (.long (SI 46 (gj_n a1)).toInt64)) SI SJ)
        have k7 := (((h.2 c1).1 c2).2.2.2.1 c3).1
        refine ⟨k7, ?_⟩
        exact ⟨_, rfl, (((h.2 c1).1 c2).2.2.2.1 c3).2⟩
      · refine gj_goq gj_clT ok_125 [] ?_
        show QL Q (some (.long (i6 (-9000000000000000000)))) SI SJ
        exact ⟨_, rfl, (((h.2 c1).1 c2).2.2.2.2 c3)⟩
    · exact ⟨_, rfl, ((h.2 c1).2 c2)⟩
set_option maxRecDepth 20000 in
/-- GraspJudge.allFingers -/
theorem st_126 {E : gj_E} {Q : Int32 → gj_I → gj_J → Prop} (SI : gj_I) (SJ : gj_J) (h : Q (((i3 1) <<< ((SI 3 5) &&& 31)) - (i3 1)) SI SJ) : DoI E 126 [(.ref 0)] SI SJ Q := by
  refine gj_start (M := mt_126) ok_126 (Nat.le_of_ble_eq_true rfl) ?_
  refine gj_goq gj_clT ok_126 [] ?_
  show QI Q (some (.int (((i3 1) <<< ((SI 3 5) &&& 31)) - (i3 1)))) SI SJ
  exact ⟨_, rfl, h⟩
set_option maxRecDepth 20000 in
/-- GraspJudge.firmBy -/
theorem st_127 {E : gj_E} {Q : Int32 → gj_I → gj_J → Prop} (a1 : Int32) (SI : gj_I) (SJ : gj_J) (h : DoI E 4 [(.ref 42), (.int a1)] SI SJ (fun r1 SI2 SJ2 => DoI E 10 [(.ref 42), (.int r1)] SI2 SJ2 (fun r3 SI4 SJ4 => (r3 = 0 ∨ r3 = 1) ∧ (Q r3 SI4 SJ4)))) : DoI E 127 [(.ref 0), (.int a1)] SI SJ Q := by
  refine gj_start (M := mt_127) ok_127 (Nat.le_of_ble_eq_true rfl) ?_
  refine gj_goq gj_clT ok_127 [12, 15] ?_
  show gj_Do E om0 (gj_mt 4) [(.ref 42), (.int a1)] SI SJ _
  refine gj_Do.mono h (fun v_ SI2 SJ2 h_ => ?_)
  obtain ⟨r1, rfl, q1⟩ := h_
  show gj_Goes E om0 mt_127 12 [some (.ref 0), some (.int a1)] [(.int r1), (.ref 42)] SI2 SJ2 (QI Q)
  refine gj_goq gj_clT ok_127 [12, 15] ?_
  show gj_Do E om0 (gj_mt 10) [(.ref 42), (.int r1)] SI2 SJ2 _
  refine gj_Do.mono q1 (fun v_ SI4 SJ4 h_ => ?_)
  obtain ⟨r3, rfl, q2⟩ := h_
  show gj_Goes E om0 mt_127 15 [some (.ref 0), some (.int a1)] [(.int r3)] SI4 SJ4 (QI Q)
  refine gj_goq gj_clT ok_127 [12, 15] ?_
  show (r3 = 0 ∨ r3 = 1) ∧ (QI Q (some (.int r3)) SI4 SJ4)
  have k3 := q2.1
  refine ⟨k3, ?_⟩
  exact ⟨_, rfl, q2.2⟩
set_option maxRecDepth 20000 in
/-- GraspJudge.neededFingers -/
theorem st_128 {E : gj_E} {Q : Int32 → gj_I → gj_J → Prop} (SI : gj_I) (SJ : gj_J) (h : GoI E mt_128 4 [some (.ref 0), some (.int (i3 0)), some (.int (i3 0))] SI SJ Q) : DoI E 128 [(.ref 0)] SI SJ Q := by
  refine gj_start (M := mt_128) ok_128 (Nat.le_of_ble_eq_true rfl) ?_
  refine gj_goq gj_clT ok_128 [4, 20, 29] ?_
  show gj_Goes E om0 mt_128 4 [some (.ref 0), some (.int (i3 0)), some (.int (i3 0))] [] SI SJ (QI Q)
  exact h
set_option maxRecDepth 20000 in
theorem lp_128_4 {E : gj_E} {Q : Int32 → gj_I → gj_J → Prop} (x1 : Int32) (x2 : Int32) (SI : gj_I) (SJ : gj_J) (h : ((SI 3 5) ≤ x2 → Q x1 SI SJ) ∧ (¬ (SI 3 5) ≤ x2 → DoI E 126 [(.ref 0)] SI SJ (fun r1 SI2 SJ2 => DoI E 127 [(.ref 0), (.int (r1 &&& (((i3 1) <<< (x2 &&& 31)) ^^^ (i3 (-1)))))] SI2 SJ2 (fun r3 SI4 SJ4 => (¬ r3 = 0 → GoI E mt_128 4 [some (.ref 0), some (.int x1), some (.int (x2 + (i3 1)))] SI4 SJ4 Q) ∧ (r3 = 0 → GoI E mt_128 4 [some (.ref 0), some (.int (x1 ||| ((i3 1) <<< (x2 &&& 31)))), some (.int (x2 + (i3 1)))] SI4 SJ4 Q))))) : GoI E mt_128 4 [some (.ref 0), some (.int x1), some (.int x2)] SI SJ Q := by
  refine gj_goq gj_clT ok_128 [4, 20, 29] ?_
  show ((SI 3 5) ≤ x2 → gj_Goes E om0 mt_128 44 [some (.ref 0), some (.int x1), some (.int x2)] [] SI SJ (QI Q)) ∧ (¬ (SI 3 5) ≤ x2 → gj_Do E om0 (gj_mt 126) [(.ref 0)] SI SJ _)
  refine ⟨fun c1 => ?_, fun c1 => ?_⟩
  · refine gj_goq gj_clT ok_128 [4, 20, 29] ?_
    show QI Q (some (.int x1)) SI SJ
    exact ⟨_, rfl, (h.1 c1)⟩
  · refine gj_Do.mono (h.2 c1) (fun v_ SI2 SJ2 h_ => ?_)
    obtain ⟨r1, rfl, q2⟩ := h_
    show gj_Goes E om0 mt_128 20 [some (.ref 0), some (.int x1), some (.int x2)] [(.int r1), (.ref 0)] SI2 SJ2 (QI Q)
    refine gj_goq gj_clT ok_128 [4, 20, 29] ?_
    show gj_Do E om0 (gj_mt 127) [(.ref 0), (.int (r1 &&& (((i3 1) <<< (x2 &&& 31)) ^^^ (i3 (-1)))))] SI2 SJ2 _
    refine gj_Do.mono q2 (fun v_ SI4 SJ4 h_ => ?_)
    obtain ⟨r3, rfl, q3⟩ := h_
    show gj_Goes E om0 mt_128 29 [some (.ref 0), some (.int x1), some (.int x2)] [(.int r3)] SI4 SJ4 (QI Q)
    refine gj_goq gj_clT ok_128 [4, 20, 29] ?_
    show (¬ r3 = 0 → gj_Goes E om0 mt_128 38 [some (.ref 0), some (.int x1), some (.int x2)] [] SI4 SJ4 (QI Q)) ∧ (r3 = 0 → gj_Goes E om0 mt_128 4 [some (.ref 0), some (.int (x1 ||| ((i3 1) <<< (x2 &&& 31)))), some (.int (x2 + (i3 1)))] [] SI4 SJ4 (QI Q))
    refine ⟨fun c4 => ?_, fun c4 => ?_⟩
    · refine gj_goq gj_clT ok_128 [4, 20, 29] ?_
      show gj_Goes E om0 mt_128 4 [some (.ref 0), some (.int x1), some (.int (x2 + (i3 1)))] [] SI4 SJ4 (QI Q)
      exact (q3.1 c4)
    · exact (q3.2 c4)
set_option maxRecDepth 20000 in
/-- GraspJudge.leastFingers -/
theorem st_129 {E : gj_E} {Q : Int32 → gj_I → gj_J → Prop} (SI : gj_I) (SJ : gj_J) (h : GoI E mt_129 2 [some (.ref 0), some (.int (i3 1)), none] SI SJ Q) : DoI E 129 [(.ref 0)] SI SJ Q := by
  refine gj_start (M := mt_129) ok_129 (Nat.le_of_ble_eq_true rfl) ?_
  refine gj_goq gj_clT ok_129 [2, 15, 20, 27, 36] ?_
  show gj_Goes E om0 mt_129 2 [some (.ref 0), some (.int (i3 1)), none] [] SI SJ (QI Q)
  exact h
set_option maxRecDepth 20000 in
theorem lp_129_2 {E : gj_E} {Q : Int32 → gj_I → gj_J → Prop} (x1 : Int32) (SI : gj_I) (SJ : gj_J) (h : ((SI 3 5) < x1 → Q (i3 0) SI SJ) ∧ (¬ (SI 3 5) < x1 → GoI E mt_129 15 [some (.ref 0), some (.int x1), some (.int (i3 1))] SI SJ Q)) : GoI E mt_129 2 [some (.ref 0), some (.int x1), none] SI SJ Q := by
  refine gj_goq gj_clT ok_129 [2, 15, 20, 27, 36] ?_
  show ((SI 3 5) < x1 → gj_Goes E om0 mt_129 53 [some (.ref 0), some (.int x1), none] [] SI SJ (QI Q)) ∧ (¬ (SI 3 5) < x1 → gj_Goes E om0 mt_129 15 [some (.ref 0), some (.int x1), some (.int (i3 1))] [] SI SJ (QI Q))
  refine ⟨fun c1 => ?_, fun c1 => ?_⟩
  · refine gj_goq gj_clT ok_129 [2, 15, 20, 27, 36] ?_
    show QI Q (some (.int (i3 0))) SI SJ
    exact ⟨_, rfl, (h.1 c1)⟩
  · exact (h.2 c1)
set_option maxRecDepth 20000 in
theorem lp_129_15 {E : gj_E} {Q : Int32 → gj_I → gj_J → Prop} (x1 : Int32) (x2 : Int32) (SI : gj_I) (SJ : gj_J) (h : DoI E 126 [(.ref 0)] SI SJ (fun r1 SI2 SJ2 => (r1 < x2 → GoI E mt_129 2 [some (.ref 0), some (.int (x1 + (i3 1))), none] SI2 SJ2 Q) ∧ (¬ r1 < x2 → DoI E 284 [(.int x2)] SI2 SJ2 (fun r3 SI4 SJ4 => (¬ r3 = x1 → GoI E mt_129 15 [some (.ref 0), some (.int x1), some (.int (x2 + (i3 1)))] SI4 SJ4 Q) ∧ (r3 = x1 → DoI E 127 [(.ref 0), (.int x2)] SI4 SJ4 (fun r5 SI6 SJ6 => (r5 = 0 → GoI E mt_129 15 [some (.ref 0), some (.int x1), some (.int (x2 + (i3 1)))] SI6 SJ6 Q) ∧ (¬ r5 = 0 → Q x2 SI6 SJ6))))))) : GoI E mt_129 15 [some (.ref 0), some (.int x1), some (.int x2)] SI SJ Q := by
  refine gj_goq gj_clT ok_129 [2, 15, 20, 27, 36] ?_
  show gj_Do E om0 (gj_mt 126) [(.ref 0)] SI SJ _
  refine gj_Do.mono h (fun v_ SI2 SJ2 h_ => ?_)
  obtain ⟨r1, rfl, q1⟩ := h_
  show gj_Goes E om0 mt_129 20 [some (.ref 0), some (.int x1), some (.int x2)] [(.int r1), (.int x2)] SI2 SJ2 (QI Q)
  refine gj_goq gj_clT ok_129 [2, 15, 20, 27, 36] ?_
  show (r1 < x2 → gj_Goes E om0 mt_129 47 [some (.ref 0), some (.int x1), some (.int x2)] [] SI2 SJ2 (QI Q)) ∧ (¬ r1 < x2 → gj_Do E om0 (gj_mt 284) [(.int x2)] SI2 SJ2 _)
  refine ⟨fun c2 => ?_, fun c2 => ?_⟩
  · refine gj_goq gj_clT ok_129 [2, 15, 20, 27, 36] ?_
    show gj_Goes E om0 mt_129 2 [some (.ref 0), some (.int (x1 + (i3 1))), some (.int x2)] [] SI2 SJ2 (QI Q)
    exact gj_fh (q1.1 c2) (And.intro (Or.inr rfl) (And.intro (Or.inr rfl) (And.intro (Or.inl rfl) trivial)))
  · refine gj_Do.mono (q1.2 c2) (fun v_ SI4 SJ4 h_ => ?_)
    obtain ⟨r3, rfl, q3⟩ := h_
    show gj_Goes E om0 mt_129 27 [some (.ref 0), some (.int x1), some (.int x2)] [(.int r3)] SI4 SJ4 (QI Q)
    refine gj_goq gj_clT ok_129 [2, 15, 20, 27, 36] ?_
    show (¬ r3 = x1 → gj_Goes E om0 mt_129 41 [some (.ref 0), some (.int x1), some (.int x2)] [] SI4 SJ4 (QI Q)) ∧ (r3 = x1 → gj_Do E om0 (gj_mt 127) [(.ref 0), (.int x2)] SI4 SJ4 _)
    refine ⟨fun c4 => ?_, fun c4 => ?_⟩
    · refine gj_goq gj_clT ok_129 [2, 15, 20, 27, 36] ?_
      show gj_Goes E om0 mt_129 15 [some (.ref 0), some (.int x1), some (.int (x2 + (i3 1)))] [] SI4 SJ4 (QI Q)
      exact (q3.1 c4)
    · refine gj_Do.mono (q3.2 c4) (fun v_ SI6 SJ6 h_ => ?_)
      obtain ⟨r5, rfl, q5⟩ := h_
      show gj_Goes E om0 mt_129 36 [some (.ref 0), some (.int x1), some (.int x2)] [(.int r5)] SI6 SJ6 (QI Q)
      refine gj_goq gj_clT ok_129 [2, 15, 20, 27, 36] ?_
      show (r5 = 0 → gj_Goes E om0 mt_129 41 [some (.ref 0), some (.int x1), some (.int x2)] [] SI6 SJ6 (QI Q)) ∧ (¬ r5 = 0 → QI Q (some (.int x2)) SI6 SJ6)
      refine ⟨fun c6 => ?_, fun c6 => ?_⟩
      · refine gj_goq gj_clT ok_129 [2, 15, 20, 27, 36] ?_
        show gj_Goes E om0 mt_129 15 [some (.ref 0), some (.int x1), some (.int (x2 + (i3 1)))] [] SI6 SJ6 (QI Q)
        exact (q5.1 c6)
      · exact ⟨_, rfl, (q5.2 c6)⟩
set_option maxRecDepth 20000 in
/-- GraspJudge.safe -/
theorem st_130 {E : gj_E} {Q : Int32 → gj_I → gj_J → Prop} (a1 : Int32) (SI : gj_I) (SJ : gj_J) (h : (a1 < 0 → Q (i3 (-1)) SI SJ) ∧ (¬ a1 < 0 → (a1 ≤ (i3 6) → GoI E mt_130 28 [some (.ref 0), none, some (.int (if (i3 0) < ((SI 3 5) - a1) then ((SI 3 5) - a1) else (i3 0))), some (.int (i3 0))] SI SJ Q) ∧ (¬ a1 ≤ (i3 6) → Q (i3 (-1)) SI SJ))) : DoI E 130 [(.ref 0), (.int a1)] SI SJ Q := by
  refine gj_start (M := mt_130) ok_130 (Nat.le_of_ble_eq_true rfl) ?_
  refine gj_goq gj_clT ok_130 [28, 33, 40, 49] ?_
  show (a1 < 0 → gj_Goes E om0 mt_130 10 [some (.ref 0), some (.int a1), none, none] [] SI SJ (QI Q)) ∧ (¬ a1 < 0 → (a1 ≤ (i3 6) → gj_Goes E om0 mt_130 12 [some (.ref 0), some (.int a1), none, none] [] SI SJ (QI Q)) ∧ (¬ a1 ≤ (i3 6) → QI Q (some (.int (i3 (-1)))) SI SJ))
  refine ⟨fun c1 => ?_, fun c1 => ?_⟩
  · refine gj_goq gj_clT ok_130 [28, 33, 40, 49] ?_
    show QI Q (some (.int (i3 (-1)))) SI SJ
    exact ⟨_, rfl, (h.1 c1)⟩
  · refine ⟨fun c2 => ?_, fun c2 => ?_⟩
    · refine gj_goq gj_clT ok_130 [28, 33, 40, 49] ?_
      show gj_Goes E om0 mt_130 28 [some (.ref 0), some (.int a1), some (.int (if (i3 0) < ((SI 3 5) - a1) then ((SI 3 5) - a1) else (i3 0))), some (.int (i3 0))] [] SI SJ (QI Q)
      exact gj_fh ((h.2 c1).1 c2) (And.intro (Or.inr rfl) (And.intro (Or.inl rfl) (And.intro (Or.inr rfl) (And.intro (Or.inr rfl) trivial))))
    · exact ⟨_, rfl, ((h.2 c1).2 c2)⟩
set_option maxRecDepth 20000 in
theorem lp_130_28 {E : gj_E} {Q : Int32 → gj_I → gj_J → Prop} (x2 : Int32) (x3 : Int32) (SI : gj_I) (SJ : gj_J) (h : DoI E 126 [(.ref 0)] SI SJ (fun r1 SI2 SJ2 => (r1 < x3 → Q (i3 1) SI2 SJ2) ∧ (¬ r1 < x3 → DoI E 284 [(.int x3)] SI2 SJ2 (fun r3 SI4 SJ4 => (¬ r3 = x2 → GoI E mt_130 28 [some (.ref 0), none, some (.int x2), some (.int (x3 + (i3 1)))] SI4 SJ4 Q) ∧ (r3 = x2 → DoI E 127 [(.ref 0), (.int x3)] SI4 SJ4 (fun r5 SI6 SJ6 => (¬ r5 = 0 → GoI E mt_130 28 [some (.ref 0), none, some (.int x2), some (.int (x3 + (i3 1)))] SI6 SJ6 Q) ∧ (r5 = 0 → Q (i3 0) SI6 SJ6))))))) : GoI E mt_130 28 [some (.ref 0), none, some (.int x2), some (.int x3)] SI SJ Q := by
  refine gj_goq gj_clT ok_130 [28, 33, 40, 49] ?_
  show gj_Do E om0 (gj_mt 126) [(.ref 0)] SI SJ _
  refine gj_Do.mono h (fun v_ SI2 SJ2 h_ => ?_)
  obtain ⟨r1, rfl, q1⟩ := h_
  show gj_Goes E om0 mt_130 33 [some (.ref 0), none, some (.int x2), some (.int x3)] [(.int r1), (.int x3)] SI2 SJ2 (QI Q)
  refine gj_goq gj_clT ok_130 [28, 33, 40, 49] ?_
  show (r1 < x3 → gj_Goes E om0 mt_130 60 [some (.ref 0), none, some (.int x2), some (.int x3)] [] SI2 SJ2 (QI Q)) ∧ (¬ r1 < x3 → gj_Do E om0 (gj_mt 284) [(.int x3)] SI2 SJ2 _)
  refine ⟨fun c2 => ?_, fun c2 => ?_⟩
  · refine gj_goq gj_clT ok_130 [28, 33, 40, 49] ?_
    show QI Q (some (.int (i3 1))) SI2 SJ2
    exact ⟨_, rfl, (q1.1 c2)⟩
  · refine gj_Do.mono (q1.2 c2) (fun v_ SI4 SJ4 h_ => ?_)
    obtain ⟨r3, rfl, q3⟩ := h_
    show gj_Goes E om0 mt_130 40 [some (.ref 0), none, some (.int x2), some (.int x3)] [(.int r3)] SI4 SJ4 (QI Q)
    refine gj_goq gj_clT ok_130 [28, 33, 40, 49] ?_
    show (¬ r3 = x2 → gj_Goes E om0 mt_130 54 [some (.ref 0), none, some (.int x2), some (.int x3)] [] SI4 SJ4 (QI Q)) ∧ (r3 = x2 → gj_Do E om0 (gj_mt 127) [(.ref 0), (.int x3)] SI4 SJ4 _)
    refine ⟨fun c4 => ?_, fun c4 => ?_⟩
    · refine gj_goq gj_clT ok_130 [28, 33, 40, 49] ?_
      show gj_Goes E om0 mt_130 28 [some (.ref 0), none, some (.int x2), some (.int (x3 + (i3 1)))] [] SI4 SJ4 (QI Q)
      exact (q3.1 c4)
    · refine gj_Do.mono (q3.2 c4) (fun v_ SI6 SJ6 h_ => ?_)
      obtain ⟨r5, rfl, q5⟩ := h_
      show gj_Goes E om0 mt_130 49 [some (.ref 0), none, some (.int x2), some (.int x3)] [(.int r5)] SI6 SJ6 (QI Q)
      refine gj_goq gj_clT ok_130 [28, 33, 40, 49] ?_
      show (¬ r5 = 0 → gj_Goes E om0 mt_130 54 [some (.ref 0), none, some (.int x2), some (.int x3)] [] SI6 SJ6 (QI Q)) ∧ (r5 = 0 → QI Q (some (.int (i3 0))) SI6 SJ6)
      refine ⟨fun c6 => ?_, fun c6 => ?_⟩
      · refine gj_goq gj_clT ok_130 [28, 33, 40, 49] ?_
        show gj_Goes E om0 mt_130 28 [some (.ref 0), none, some (.int x2), some (.int (x3 + (i3 1)))] [] SI6 SJ6 (QI Q)
        exact (q5.1 c6)
      · exact ⟨_, rfl, (q5.2 c6)⟩
set_option maxRecDepth 20000 in
/-- GraspJudge.slide -/
theorem st_131 {E : gj_E} {Q : Int32 → gj_I → gj_J → Prop} (a1 : Int32) (a2 : Int32) (SI : gj_I) (SJ : gj_J) (h : (a1 < 0 → Q (i3 (-1)) SI SJ) ∧ (¬ a1 < 0 → ((SI 3 5) ≤ a1 → Q (i3 (-1)) SI SJ) ∧ (¬ (SI 3 5) ≤ a1 → (a2 < 0 → Q (i3 (-1)) SI SJ) ∧ (¬ a2 < 0 → (a2 ≤ (i3 1) → (¬ (SI 0 13) = 0 → (¬ a2 = 0 → DoI E 88 [(.ref 65), (.ref 3), (.int a1), (.int (i3 1))] SI SJ (fun r1 SI2 SJ2 => Q r1 SI2 SJ2)) ∧ (a2 = 0 → DoI E 88 [(.ref 65), (.ref 3), (.int a1), (.int (i3 (-1)))] SI SJ (fun r3 SI4 SJ4 => Q r3 SI4 SJ4))) ∧ ((SI 0 13) = 0 → Q (i3 (-2)) SI SJ)) ∧ (¬ a2 ≤ (i3 1) → Q (i3 (-1)) SI SJ))))) : DoI E 131 [(.ref 0), (.int a1), (.int a2)] SI SJ Q := by
  refine gj_start (M := mt_131) ok_131 (Nat.le_of_ble_eq_true rfl) ?_
  refine gj_goq gj_clT ok_131 [57] ?_
  show (a1 < 0 → gj_Goes E om0 mt_131 24 [some (.ref 0), some (.int a1), some (.int a2)] [] SI SJ (QI Q)) ∧ (¬ a1 < 0 → ((SI 3 5) ≤ a1 → gj_Goes E om0 mt_131 24 [some (.ref 0), some (.int a1), some (.int a2)] [] SI SJ (QI Q)) ∧ (¬ (SI 3 5) ≤ a1 → (a2 < 0 → gj_Goes E om0 mt_131 24 [some (.ref 0), some (.int a1), some (.int a2)] [] SI SJ (QI Q)) ∧ (¬ a2 < 0 → (a2 ≤ (i3 1) → gj_Goes E om0 mt_131 26 [some (.ref 0), some (.int a1), some (.int a2)] [] SI SJ (QI Q)) ∧ (¬ a2 ≤ (i3 1) → QI Q (some (.int (i3 (-1)))) SI SJ))))
  refine ⟨fun c1 => ?_, fun c1 => ?_⟩
  · refine gj_goq gj_clT ok_131 [57] ?_
    show QI Q (some (.int (i3 (-1)))) SI SJ
    exact ⟨_, rfl, (h.1 c1)⟩
  · refine ⟨fun c2 => ?_, fun c2 => ?_⟩
    · refine gj_goq gj_clT ok_131 [57] ?_
      show QI Q (some (.int (i3 (-1)))) SI SJ
      exact ⟨_, rfl, ((h.2 c1).1 c2)⟩
    · refine ⟨fun c3 => ?_, fun c3 => ?_⟩
      · refine gj_goq gj_clT ok_131 [57] ?_
        show QI Q (some (.int (i3 (-1)))) SI SJ
        exact ⟨_, rfl, (((h.2 c1).2 c2).1 c3)⟩
      · refine ⟨fun c4 => ?_, fun c4 => ?_⟩
        · refine gj_goq gj_clT ok_131 [57] ?_
          show (¬ (SI 0 13) = 0 → gj_Goes E om0 mt_131 36 [some (.ref 0), some (.int a1), some (.int a2)] [] SI SJ (QI Q)) ∧ ((SI 0 13) = 0 → QI Q (some (.int (i3 (-2)))) SI SJ)
          refine ⟨fun c5 => ?_, fun c5 => ?_⟩
          · refine gj_goq gj_clT ok_131 [57] ?_
            show (¬ a2 = 0 → gj_Goes E om0 mt_131 53 [some (.ref 0), some (.int a1), some (.int a2)] [(.int a1), (.ref 3), (.ref 65)] SI SJ (QI Q)) ∧ (a2 = 0 → gj_Goes E om0 mt_131 54 [some (.ref 0), some (.int a1), some (.int a2)] [(.int (i3 (-1))), (.int a1), (.ref 3), (.ref 65)] SI SJ (QI Q))
            refine ⟨fun c6 => ?_, fun c6 => ?_⟩
            · refine gj_goq gj_clT ok_131 [57] ?_
              show gj_Do E om0 (gj_mt 88) [(.ref 65), (.ref 3), (.int a1), (.int (i3 1))] SI SJ _
              refine gj_Do.mono ((((((h.2 c1).2 c2).2 c3).1 c4).1 c5).1 c6) (fun v_ SI2 SJ2 h_ => ?_)
              obtain ⟨r1, rfl, q7⟩ := h_
              show gj_Goes E om0 mt_131 57 [some (.ref 0), some (.int a1), some (.int a2)] [(.int r1)] SI2 SJ2 (QI Q)
              refine gj_goq gj_clT ok_131 [57] ?_
              show QI Q (some (.int r1)) SI2 SJ2
              exact ⟨_, rfl, q7⟩
            · refine gj_goq gj_clT ok_131 [57] ?_
              show gj_Do E om0 (gj_mt 88) [(.ref 65), (.ref 3), (.int a1), (.int (i3 (-1)))] SI SJ _
              refine gj_Do.mono ((((((h.2 c1).2 c2).2 c3).1 c4).1 c5).2 c6) (fun v_ SI4 SJ4 h_ => ?_)
              obtain ⟨r3, rfl, q8⟩ := h_
              show gj_Goes E om0 mt_131 57 [some (.ref 0), some (.int a1), some (.int a2)] [(.int r3)] SI4 SJ4 (QI Q)
              refine gj_goq gj_clT ok_131 [57] ?_
              show QI Q (some (.int r3)) SI4 SJ4
              exact ⟨_, rfl, q8⟩
          · exact ⟨_, rfl, (((((h.2 c1).2 c2).2 c3).1 c4).2 c5)⟩
        · exact ⟨_, rfl, ((((h.2 c1).2 c2).2 c3).2 c4)⟩
set_option maxRecDepth 20000 in
/-- GraspJudge.rough -/
theorem st_132 {E : gj_E} {Q : Int32 → gj_I → gj_J → Prop} (a1 : Int32) (SI : gj_I) (SJ : gj_J) (h : (a1 < 0 → Q (i3 (-1)) SI SJ) ∧ (¬ a1 < 0 → (a1 ≤ (i3 1) → DoI E 90 [(.ref 65), (.ref 3)] SI SJ (fun r1 SI2 SJ2 => (r1 < 0 → Q (i3 (-2)) SI2 SJ2) ∧ (¬ r1 < 0 → (r1 < (i3 8) → (¬ a1 = 0 → vp_in r1 8 ∧ (Q (gj_stf E 1 (gj_n r1)) SI2 SJ2)) ∧ (a1 = 0 → vp_in r1 8 ∧ (Q (gj_stf E 0 (gj_n r1)) SI2 SJ2))) ∧ (¬ r1 < (i3 8) → Q (i3 (-2)) SI2 SJ2)))) ∧ (¬ a1 ≤ (i3 1) → Q (i3 (-1)) SI SJ))) : DoI E 132 [(.ref 0), (.int a1)] SI SJ Q := by
  refine gj_start (M := mt_132) ok_132 (Nat.le_of_ble_eq_true rfl) ?_
  refine gj_goq gj_clT ok_132 [22] ?_
  show (a1 < 0 → gj_Goes E om0 mt_132 9 [some (.ref 0), some (.int a1), none] [] SI SJ (QI Q)) ∧ (¬ a1 < 0 → (a1 ≤ (i3 1) → gj_Goes E om0 mt_132 11 [some (.ref 0), some (.int a1), none] [] SI SJ (QI Q)) ∧ (¬ a1 ≤ (i3 1) → QI Q (some (.int (i3 (-1)))) SI SJ))
  refine ⟨fun c1 => ?_, fun c1 => ?_⟩
  · refine gj_goq gj_clT ok_132 [22] ?_
    show QI Q (some (.int (i3 (-1)))) SI SJ
    exact ⟨_, rfl, (h.1 c1)⟩
  · refine ⟨fun c2 => ?_, fun c2 => ?_⟩
    · refine gj_goq gj_clT ok_132 [22] ?_
      show gj_Do E om0 (gj_mt 90) [(.ref 65), (.ref 3)] SI SJ _
      refine gj_Do.mono ((h.2 c1).1 c2) (fun v_ SI2 SJ2 h_ => ?_)
      obtain ⟨r1, rfl, q3⟩ := h_
      show gj_Goes E om0 mt_132 22 [some (.ref 0), some (.int a1), none] [(.int r1)] SI2 SJ2 (QI Q)
      refine gj_goq gj_clT ok_132 [22] ?_
      show (r1 < 0 → gj_Goes E om0 mt_132 35 [some (.ref 0), some (.int a1), some (.int r1)] [] SI2 SJ2 (QI Q)) ∧ (¬ r1 < 0 → (r1 < (i3 8) → gj_Goes E om0 mt_132 38 [some (.ref 0), some (.int a1), some (.int r1)] [] SI2 SJ2 (QI Q)) ∧ (¬ r1 < (i3 8) → QI Q (some (.int (i3 (-2)))) SI2 SJ2))
      refine ⟨fun c4 => ?_, fun c4 => ?_⟩
      · refine gj_goq gj_clT ok_132 [22] ?_
        show QI Q (some (.int (i3 (-2)))) SI2 SJ2
        exact ⟨_, rfl, (q3.1 c4)⟩
      · refine ⟨fun c5 => ?_, fun c5 => ?_⟩
        · refine gj_goq gj_clT ok_132 [22] ?_
          show (¬ a1 = 0 → gj_Goes E om0 mt_132 50 [some (.ref 0), some (.int a1), some (.int r1)] [] SI2 SJ2 (QI Q)) ∧ (a1 = 0 → vp_in r1 8 ∧ (gj_Goes E om0 mt_132 55 [some (.ref 0), some (.int a1), some (.int r1)] [(.int (gj_stf E 0 (gj_n r1)))] SI2 SJ2 (QI Q)))
          refine ⟨fun c6 => ?_, fun c6 => ?_⟩
          · refine gj_goq gj_clT ok_132 [22] ?_
            show vp_in r1 8 ∧ (QI Q (some (.int (gj_stf E 1 (gj_n r1)))) SI2 SJ2)
            have k7 := (((q3.2 c4).1 c5).1 c6).1
            refine ⟨k7, ?_⟩
            exact ⟨_, rfl, (((q3.2 c4).1 c5).1 c6).2⟩
          · have k8 := (((q3.2 c4).1 c5).2 c6).1
            refine ⟨k8, ?_⟩
            refine gj_goq gj_clT ok_132 [22] ?_
            show QI Q (some (.int (gj_stf E 0 (gj_n r1)))) SI2 SJ2
            exact ⟨_, rfl, (((q3.2 c4).1 c5).2 c6).2⟩
        · exact ⟨_, rfl, ((q3.2 c4).2 c5)⟩
    · exact ⟨_, rfl, ((h.2 c1).2 c2)⟩
set_option maxRecDepth 20000 in
/-- GraspJudge.best -/
theorem st_133 {E : gj_E} {Q : Int64 → gj_I → gj_J → Prop} (a1 : Int32) (SI : gj_I) (SJ : gj_J) (h : (a1 < 0 → Q (i6 (-9000000000000000000)) SI SJ) ∧ (¬ a1 < 0 → (a1 ≤ (i3 3) → DoV E 82 [(.ref 65), (.ref 3)] SI SJ (fun SI2 SJ2 => ((SI2 65 6) < 0 → Q (i6 (-2)) SI2 SJ2) ∧ (¬ (SI2 65 6) < 0 → ((SI2 65 6) < (SI2 4 8) → (a1 = (i3 0) → vp_in (SI2 65 6) 72 ∧ (Q (SI2 10 (gj_n (SI2 65 6))).toInt64 SI2 SJ2)) ∧ (a1 = (i3 1) → vp_in (SI2 65 6) 72 ∧ (Q (SI2 11 (gj_n (SI2 65 6))).toInt64 SI2 SJ2)) ∧ (a1 = (i3 2) → Q (SJ2 79 0) SI2 SJ2) ∧ (a1.toInt < 0 ∨ 2 < a1.toInt → Q (SJ2 79 1) SI2 SJ2)) ∧ (¬ (SI2 65 6) < (SI2 4 8) → Q (i6 (-2)) SI2 SJ2)))) ∧ (¬ a1 ≤ (i3 3) → Q (i6 (-9000000000000000000)) SI SJ))) : DoL E 133 [(.ref 0), (.int a1)] SI SJ Q := by
  refine gj_start (M := mt_133) ok_133 (Nat.le_of_ble_eq_true rfl) ?_
  refine gj_goq gj_clT ok_133 [24] ?_
  show (a1 < 0 → gj_Goes E om0 mt_133 9 [some (.ref 0), some (.int a1), none] [] SI SJ (QL Q)) ∧ (¬ a1 < 0 → (a1 ≤ (i3 3) → gj_Goes E om0 mt_133 13 [some (.ref 0), some (.int a1), none] [] SI SJ (QL Q)) ∧ (¬ a1 ≤ (i3 3) → QL Q (some (.long (i6 (-9000000000000000000)))) SI SJ))
  refine ⟨fun c1 => ?_, fun c1 => ?_⟩
  · refine gj_goq gj_clT ok_133 [24] ?_
    show QL Q (some (.long (i6 (-9000000000000000000)))) SI SJ
    exact ⟨_, rfl, (h.1 c1)⟩
  · refine ⟨fun c2 => ?_, fun c2 => ?_⟩
    · refine gj_goq gj_clT ok_133 [24] ?_
      show gj_Do E om0 (gj_mt 82) [(.ref 65), (.ref 3)] SI SJ _
      refine gj_Do.mono ((h.2 c1).1 c2) (fun v_ SI2 SJ2 h_ => ?_)
      obtain ⟨rfl, q3⟩ := h_
      show gj_Goes E om0 mt_133 24 [some (.ref 0), some (.int a1), none] [] SI2 SJ2 (QL Q)
      refine gj_goq gj_clT ok_133 [24] ?_
      show ((SI2 65 6) < 0 → gj_Goes E om0 mt_133 50 [some (.ref 0), some (.int a1), some (.int (SI2 65 6))] [] SI2 SJ2 (QL Q)) ∧ (¬ (SI2 65 6) < 0 → ((SI2 65 6) < (SI2 4 8) → gj_Goes E om0 mt_133 54 [some (.ref 0), some (.int a1), some (.int (SI2 65 6))] [] SI2 SJ2 (QL Q)) ∧ (¬ (SI2 65 6) < (SI2 4 8) → QL Q (some (.long (i6 (-2)))) SI2 SJ2))
      refine ⟨fun c4 => ?_, fun c4 => ?_⟩
      · refine gj_goq gj_clT ok_133 [24] ?_
        show QL Q (some (.long (i6 (-2)))) SI2 SJ2
        exact ⟨_, rfl, (q3.1 c4)⟩
      · refine ⟨fun c5 => ?_, fun c5 => ?_⟩
        · refine gj_goq gj_clT ok_133 [24] ?_
          show ((a1 = Int32.ofInt (0) → gj_Goes E om0 mt_133 80 [some (.ref 0), some (.int a1), some (.int (SI2 65 6))] [] SI2 SJ2 (QL Q)) ∧ (a1 = Int32.ofInt (1) → gj_Goes E om0 mt_133 94 [some (.ref 0), some (.int a1), some (.int (SI2 65 6))] [] SI2 SJ2 (QL Q)) ∧ (a1 = Int32.ofInt (2) → gj_Goes E om0 mt_133 108 [some (.ref 0), some (.int a1), some (.int (SI2 65 6))] [] SI2 SJ2 (QL Q)) ∧ True) ∧ (a1.toInt < 0 ∨ 2 < a1.toInt → gj_Goes E om0 mt_133 119 [some (.ref 0), some (.int a1), some (.int (SI2 65 6))] [] SI2 SJ2 (QL Q))
          refine ⟨⟨fun c6 => ?_, ⟨fun c6 => ?_, ⟨fun c6 => ?_, trivial⟩⟩⟩, fun c6 => ?_⟩
          · refine gj_goq gj_clT ok_133 [24] ?_
            show vp_in (SI2 65 6) 72 ∧ (QL Q (some (.long (SI2 10 (gj_n (SI2 65 6))).toInt64)) SI2 SJ2)
            have k7 := (((q3.2 c4).1 c5).1 c6).1
            refine ⟨k7, ?_⟩
            exact ⟨_, rfl, (((q3.2 c4).1 c5).1 c6).2⟩
          · refine gj_goq gj_clT ok_133 [24] ?_
            show vp_in (SI2 65 6) 72 ∧ (QL Q (some (.long (SI2 11 (gj_n (SI2 65 6))).toInt64)) SI2 SJ2)
            have k8 := (((q3.2 c4).1 c5).2.1 c6).1
            refine ⟨k8, ?_⟩
            exact ⟨_, rfl, (((q3.2 c4).1 c5).2.1 c6).2⟩
          · refine gj_goq gj_clT ok_133 [24] ?_
            show QL Q (some (.long (SJ2 79 0))) SI2 SJ2
            exact ⟨_, rfl, (((q3.2 c4).1 c5).2.2.1 c6)⟩
          · refine gj_goq gj_clT ok_133 [24] ?_
            show QL Q (some (.long (SJ2 79 1))) SI2 SJ2
            exact ⟨_, rfl, (((q3.2 c4).1 c5).2.2.2 c6)⟩
        · exact ⟨_, rfl, ((q3.2 c4).2 c5)⟩
    · exact ⟨_, rfl, ((h.2 c1).2 c2)⟩
set_option maxRecDepth 20000 in
/-- GraspJudge.two -/
theorem st_134 {E : gj_E} {Q : Int64 → gj_I → gj_J → Prop} (a1 : Int32) (SI : gj_I) (SJ : gj_J) (h : (a1 < 0 → Q (i6 (-9000000000000000000)) SI SJ) ∧ (¬ a1 < 0 → (a1 ≤ (i3 4) → DoV E 85 [(.ref 65), (.ref 3)] SI SJ (fun SI2 SJ2 => (¬ a1 = 0 → (¬ (SI2 65 7) = 0 → (a1 = (i3 1) → Q (SI2 65 8).toInt64 SI2 SJ2) ∧ (a1 = (i3 2) → Q (SI2 65 9).toInt64 SI2 SJ2) ∧ (a1 = (i3 3) → Q (SJ2 80 0) SI2 SJ2) ∧ (a1.toInt < 1 ∨ 3 < a1.toInt → Q (SJ2 80 1) SI2 SJ2)) ∧ ((SI2 65 7) = 0 → Q (i6 (-2)) SI2 SJ2)) ∧ (a1 = 0 → Q (SI2 65 7).toInt64 SI2 SJ2))) ∧ (¬ a1 ≤ (i3 4) → Q (i6 (-9000000000000000000)) SI SJ))) : DoL E 134 [(.ref 0), (.int a1)] SI SJ Q := by
  refine gj_start (M := mt_134) ok_134 (Nat.le_of_ble_eq_true rfl) ?_
  refine gj_goq gj_clT ok_134 [24] ?_
  show (a1 < 0 → gj_Goes E om0 mt_134 9 [some (.ref 0), some (.int a1)] [] SI SJ (QL Q)) ∧ (¬ a1 < 0 → (a1 ≤ (i3 4) → gj_Goes E om0 mt_134 13 [some (.ref 0), some (.int a1)] [] SI SJ (QL Q)) ∧ (¬ a1 ≤ (i3 4) → QL Q (some (.long (i6 (-9000000000000000000)))) SI SJ))
  refine ⟨fun c1 => ?_, fun c1 => ?_⟩
  · refine gj_goq gj_clT ok_134 [24] ?_
    show QL Q (some (.long (i6 (-9000000000000000000)))) SI SJ
    exact ⟨_, rfl, (h.1 c1)⟩
  · refine ⟨fun c2 => ?_, fun c2 => ?_⟩
    · refine gj_goq gj_clT ok_134 [24] ?_
      show gj_Do E om0 (gj_mt 85) [(.ref 65), (.ref 3)] SI SJ _
      refine gj_Do.mono ((h.2 c1).1 c2) (fun v_ SI2 SJ2 h_ => ?_)
      obtain ⟨rfl, q3⟩ := h_
      show gj_Goes E om0 mt_134 24 [some (.ref 0), some (.int a1)] [] SI2 SJ2 (QL Q)
      refine gj_goq gj_clT ok_134 [24] ?_
      show (¬ a1 = 0 → gj_Goes E om0 mt_134 37 [some (.ref 0), some (.int a1)] [] SI2 SJ2 (QL Q)) ∧ (a1 = 0 → QL Q (some (.long (SI2 65 7).toInt64)) SI2 SJ2)
      refine ⟨fun c4 => ?_, fun c4 => ?_⟩
      · refine gj_goq gj_clT ok_134 [24] ?_
        show (¬ (SI2 65 7) = 0 → gj_Goes E om0 mt_134 51 [some (.ref 0), some (.int a1)] [] SI2 SJ2 (QL Q)) ∧ ((SI2 65 7) = 0 → QL Q (some (.long (i6 (-2)))) SI2 SJ2)
        refine ⟨fun c5 => ?_, fun c5 => ?_⟩
        · refine gj_goq gj_clT ok_134 [24] ?_
          show ((a1 = Int32.ofInt (1) → gj_Goes E om0 mt_134 80 [some (.ref 0), some (.int a1)] [] SI2 SJ2 (QL Q)) ∧ (a1 = Int32.ofInt (2) → gj_Goes E om0 mt_134 89 [some (.ref 0), some (.int a1)] [] SI2 SJ2 (QL Q)) ∧ (a1 = Int32.ofInt (3) → gj_Goes E om0 mt_134 98 [some (.ref 0), some (.int a1)] [] SI2 SJ2 (QL Q)) ∧ True) ∧ (a1.toInt < 1 ∨ 3 < a1.toInt → gj_Goes E om0 mt_134 109 [some (.ref 0), some (.int a1)] [] SI2 SJ2 (QL Q))
          refine ⟨⟨fun c6 => ?_, ⟨fun c6 => ?_, ⟨fun c6 => ?_, trivial⟩⟩⟩, fun c6 => ?_⟩
          · refine gj_goq gj_clT ok_134 [24] ?_
            show QL Q (some (.long (SI2 65 8).toInt64)) SI2 SJ2
            exact ⟨_, rfl, (((q3.1 c4).1 c5).1 c6)⟩
          · refine gj_goq gj_clT ok_134 [24] ?_
            show QL Q (some (.long (SI2 65 9).toInt64)) SI2 SJ2
            exact ⟨_, rfl, (((q3.1 c4).1 c5).2.1 c6)⟩
          · refine gj_goq gj_clT ok_134 [24] ?_
            show QL Q (some (.long (SJ2 80 0))) SI2 SJ2
            exact ⟨_, rfl, (((q3.1 c4).1 c5).2.2.1 c6)⟩
          · refine gj_goq gj_clT ok_134 [24] ?_
            show QL Q (some (.long (SJ2 80 1))) SI2 SJ2
            exact ⟨_, rfl, (((q3.1 c4).1 c5).2.2.2 c6)⟩
        · exact ⟨_, rfl, ((q3.1 c4).2 c5)⟩
      · exact ⟨_, rfl, (q3.2 c4)⟩
    · exact ⟨_, rfl, ((h.2 c1).2 c2)⟩
set_option maxRecDepth 20000 in
/-- GraspJudge.free -/
theorem st_135 {E : gj_E} {Q : Int64 → gj_I → gj_J → Prop} (a1 : Int32) (SI : gj_I) (SJ : gj_J) (h : (¬ (SI 0 13) = 0 → Q (i6 (-9000000000000000000)) SI SJ) ∧ ((SI 0 13) = 0 → (a1 < 0 → Q (i6 (-9000000000000000000)) SI SJ) ∧ (¬ a1 < 0 → (a1 ≤ (i3 2) → DoV E 44 [(.ref 61), (.ref 42), (.int (SI 0 12))] SI SJ (fun SI2 SJ2 => (¬ a1 = 0 → (¬ a1 = (i3 1) → Q (SJ2 61 6) SI2 SJ2) ∧ (a1 = (i3 1) → Q (SJ2 61 5) SI2 SJ2)) ∧ (a1 = 0 → Q (SJ2 61 4) SI2 SJ2))) ∧ (¬ a1 ≤ (i3 2) → Q (i6 (-9000000000000000000)) SI SJ)))) : DoL E 135 [(.ref 0), (.int a1)] SI SJ Q := by
  refine gj_start (M := mt_135) ok_135 (Nat.le_of_ble_eq_true rfl) ?_
  refine gj_goq gj_clT ok_135 [35] ?_
  show (¬ (SI 0 13) = 0 → gj_Goes E om0 mt_135 16 [some (.ref 0), some (.int a1)] [] SI SJ (QL Q)) ∧ ((SI 0 13) = 0 → (a1 < 0 → gj_Goes E om0 mt_135 16 [some (.ref 0), some (.int a1)] [] SI SJ (QL Q)) ∧ (¬ a1 < 0 → (a1 ≤ (i3 2) → gj_Goes E om0 mt_135 20 [some (.ref 0), some (.int a1)] [] SI SJ (QL Q)) ∧ (¬ a1 ≤ (i3 2) → QL Q (some (.long (i6 (-9000000000000000000)))) SI SJ)))
  refine ⟨fun c1 => ?_, fun c1 => ?_⟩
  · refine gj_goq gj_clT ok_135 [35] ?_
    show QL Q (some (.long (i6 (-9000000000000000000)))) SI SJ
    exact ⟨_, rfl, (h.1 c1)⟩
  · refine ⟨fun c2 => ?_, fun c2 => ?_⟩
    · refine gj_goq gj_clT ok_135 [35] ?_
      show QL Q (some (.long (i6 (-9000000000000000000)))) SI SJ
      exact ⟨_, rfl, ((h.2 c1).1 c2)⟩
    · refine ⟨fun c3 => ?_, fun c3 => ?_⟩
      · refine gj_goq gj_clT ok_135 [35] ?_
        show gj_Do E om0 (gj_mt 44) [(.ref 61), (.ref 42), (.int (SI 0 12))] SI SJ _
        refine gj_Do.mono (((h.2 c1).2 c2).1 c3) (fun v_ SI2 SJ2 h_ => ?_)
        obtain ⟨rfl, q4⟩ := h_
        show gj_Goes E om0 mt_135 35 [some (.ref 0), some (.int a1)] [] SI2 SJ2 (QL Q)
        refine gj_goq gj_clT ok_135 [35] ?_
        show (¬ a1 = 0 → gj_Goes E om0 mt_135 47 [some (.ref 0), some (.int a1)] [] SI2 SJ2 (QL Q)) ∧ (a1 = 0 → QL Q (some (.long (SJ2 61 4))) SI2 SJ2)
        refine ⟨fun c5 => ?_, fun c5 => ?_⟩
        · refine gj_goq gj_clT ok_135 [35] ?_
          show (¬ a1 = (i3 1) → gj_Goes E om0 mt_135 62 [some (.ref 0), some (.int a1)] [] SI2 SJ2 (QL Q)) ∧ (a1 = (i3 1) → gj_Goes E om0 mt_135 69 [some (.ref 0), some (.int a1)] [(.long (SJ2 61 5))] SI2 SJ2 (QL Q))
          refine ⟨fun c6 => ?_, fun c6 => ?_⟩
          · refine gj_goq gj_clT ok_135 [35] ?_
            show QL Q (some (.long (SJ2 61 6))) SI2 SJ2
            exact ⟨_, rfl, ((q4.1 c5).1 c6)⟩
          · refine gj_goq gj_clT ok_135 [35] ?_
            show QL Q (some (.long (SJ2 61 5))) SI2 SJ2
            exact ⟨_, rfl, ((q4.1 c5).2 c6)⟩
        · exact ⟨_, rfl, (q4.2 c5)⟩
      · exact ⟨_, rfl, (((h.2 c1).2 c2).2 c3)⟩
set_option maxRecDepth 20000 in
/-- GraspJudge.frees -/
theorem st_136 {E : gj_E} {Q : Int64 → gj_I → gj_J → Prop} (a1 : Int32) (a2 : Int32) (SI : gj_I) (SJ : gj_J) (h : (a1 < (i3 (-1)) → Q (i6 (-9000000000000000000)) SI SJ) ∧ (¬ a1 < (i3 (-1)) → (a2 < 0 → Q (i6 (-9000000000000000000)) SI SJ) ∧ (¬ a2 < 0 → (a2 ≤ (i3 2) → (¬ (SI 0 13) = 0 → (¬ a1 = (i3 (-1)) → (a1 < (i3 0) → (¬ a2 = 0 → (¬ a2 = (i3 1) → vp_in a1 14 ∧ (Q (SJ 64 (gj_n a1)) SI SJ)) ∧ (a2 = (i3 1) → vp_in a1 14 ∧ (Q (SJ 63 (gj_n a1)) SI SJ))) ∧ (a2 = 0 → vp_in a1 14 ∧ (Q (SJ 62 (gj_n a1)) SI SJ))) ∧ (¬ a1 < (i3 0) → Q (i6 (-9000000000000000000)) SI SJ)) ∧ (a1 = (i3 (-1)) → (¬ a2 = 0 → Q (i6 (-9000000000000000000)) SI SJ) ∧ (a2 = 0 → Q (i3 0).toInt64 SI SJ))) ∧ ((SI 0 13) = 0 → (¬ (SI 0 12) = (i3 3) → (¬ a1 = (i3 (-1)) → (a1 < (i3 0) → (¬ a2 = 0 → (¬ a2 = (i3 1) → vp_in a1 14 ∧ (Q (SJ 64 (gj_n a1)) SI SJ)) ∧ (a2 = (i3 1) → vp_in a1 14 ∧ (Q (SJ 63 (gj_n a1)) SI SJ))) ∧ (a2 = 0 → vp_in a1 14 ∧ (Q (SJ 62 (gj_n a1)) SI SJ))) ∧ (¬ a1 < (i3 0) → Q (i6 (-9000000000000000000)) SI SJ)) ∧ (a1 = (i3 (-1)) → (¬ a2 = 0 → Q (i6 (-9000000000000000000)) SI SJ) ∧ (a2 = 0 → Q (i3 0).toInt64 SI SJ))) ∧ ((SI 0 12) = (i3 3) → DoV E 44 [(.ref 61), (.ref 42), (.int (SI 0 12))] SI SJ (fun SI2 SJ2 => (¬ a1 = (i3 (-1)) → (a1 < (SI2 61 3) → (¬ a2 = 0 → (¬ a2 = (i3 1) → vp_in a1 14 ∧ (Q (SJ2 64 (gj_n a1)) SI2 SJ2)) ∧ (a2 = (i3 1) → vp_in a1 14 ∧ (Q (SJ2 63 (gj_n a1)) SI2 SJ2))) ∧ (a2 = 0 → vp_in a1 14 ∧ (Q (SJ2 62 (gj_n a1)) SI2 SJ2))) ∧ (¬ a1 < (SI2 61 3) → Q (i6 (-9000000000000000000)) SI2 SJ2)) ∧ (a1 = (i3 (-1)) → (¬ a2 = 0 → Q (i6 (-9000000000000000000)) SI2 SJ2) ∧ (a2 = 0 → Q (SI2 61 3).toInt64 SI2 SJ2)))))) ∧ (¬ a2 ≤ (i3 2) → Q (i6 (-9000000000000000000)) SI SJ)))) : DoL E 136 [(.ref 0), (.int a1), (.int a2)] SI SJ Q := by
  refine gj_start (M := mt_136) ok_136 (Nat.le_of_ble_eq_true rfl) ?_
  refine gj_goq gj_clT ok_136 [50] ?_
  show (a1 < (i3 (-1)) → gj_Goes E om0 mt_136 14 [some (.ref 0), some (.int a1), some (.int a2), none] [] SI SJ (QL Q)) ∧ (¬ a1 < (i3 (-1)) → (a2 < 0 → gj_Goes E om0 mt_136 14 [some (.ref 0), some (.int a1), some (.int a2), none] [] SI SJ (QL Q)) ∧ (¬ a2 < 0 → (a2 ≤ (i3 2) → gj_Goes E om0 mt_136 18 [some (.ref 0), some (.int a1), some (.int a2), none] [] SI SJ (QL Q)) ∧ (¬ a2 ≤ (i3 2) → QL Q (some (.long (i6 (-9000000000000000000)))) SI SJ)))
  refine ⟨fun c1 => ?_, fun c1 => ?_⟩
  · refine gj_goq gj_clT ok_136 [50] ?_
    show QL Q (some (.long (i6 (-9000000000000000000)))) SI SJ
    exact ⟨_, rfl, (h.1 c1)⟩
  · refine ⟨fun c2 => ?_, fun c2 => ?_⟩
    · refine gj_goq gj_clT ok_136 [50] ?_
      show QL Q (some (.long (i6 (-9000000000000000000)))) SI SJ
      exact ⟨_, rfl, ((h.2 c1).1 c2)⟩
    · refine ⟨fun c3 => ?_, fun c3 => ?_⟩
      · refine gj_goq gj_clT ok_136 [50] ?_
        show (¬ (SI 0 13) = 0 → gj_Goes E om0 mt_136 58 [some (.ref 0), some (.int a1), some (.int a2), some (.int (i3 0))] [] SI SJ (QL Q)) ∧ ((SI 0 13) = 0 → (¬ (SI 0 12) = (i3 3) → gj_Goes E om0 mt_136 58 [some (.ref 0), some (.int a1), some (.int a2), some (.int (i3 0))] [] SI SJ (QL Q)) ∧ ((SI 0 12) = (i3 3) → gj_Do E om0 (gj_mt 44) [(.ref 61), (.ref 42), (.int (SI 0 12))] SI SJ _))
        refine ⟨fun c4 => ?_, fun c4 => ?_⟩
        · refine gj_goq gj_clT ok_136 [50] ?_
          show (¬ a1 = (i3 (-1)) → gj_Goes E om0 mt_136 76 [some (.ref 0), some (.int a1), some (.int a2), some (.int (i3 0))] [] SI SJ (QL Q)) ∧ (a1 = (i3 (-1)) → (¬ a2 = 0 → gj_Goes E om0 mt_136 72 [some (.ref 0), some (.int a1), some (.int a2), some (.int (i3 0))] [] SI SJ (QL Q)) ∧ (a2 = 0 → gj_Goes E om0 mt_136 75 [some (.ref 0), some (.int a1), some (.int a2), some (.int (i3 0))] [(.long (i3 0).toInt64)] SI SJ (QL Q)))
          refine ⟨fun c5 => ?_, fun c5 => ?_⟩
          · refine gj_goq gj_clT ok_136 [50] ?_
            show (a1 < (i3 0) → gj_Goes E om0 mt_136 85 [some (.ref 0), some (.int a1), some (.int a2), some (.int (i3 0))] [] SI SJ (QL Q)) ∧ (¬ a1 < (i3 0) → QL Q (some (.long (i6 (-9000000000000000000)))) SI SJ)
            refine ⟨fun c6 => ?_, fun c6 => ?_⟩
            · refine gj_goq gj_clT ok_136 [50] ?_
              show (¬ a2 = 0 → gj_Goes E om0 mt_136 99 [some (.ref 0), some (.int a1), some (.int a2), some (.int (i3 0))] [] SI SJ (QL Q)) ∧ (a2 = 0 → vp_in a1 14 ∧ (QL Q (some (.long (SJ 62 (gj_n a1)))) SI SJ))
              refine ⟨fun c7 => ?_, fun c7 => ?_⟩
              · refine gj_goq gj_clT ok_136 [50] ?_
                show (¬ a2 = (i3 1) → gj_Goes E om0 mt_136 116 [some (.ref 0), some (.int a1), some (.int a2), some (.int (i3 0))] [] SI SJ (QL Q)) ∧ (a2 = (i3 1) → vp_in a1 14 ∧ (gj_Goes E om0 mt_136 125 [some (.ref 0), some (.int a1), some (.int a2), some (.int (i3 0))] [(.long (SJ 63 (gj_n a1)))] SI SJ (QL Q)))
                refine ⟨fun c8 => ?_, fun c8 => ?_⟩
                · refine gj_goq gj_clT ok_136 [50] ?_
                  show vp_in a1 14 ∧ (QL Q (some (.long (SJ 64 (gj_n a1)))) SI SJ)
                  have k9 := ((((((((h.2 c1).2 c2).1 c3).1 c4).1 c5).1 c6).1 c7).1 c8).1
                  refine ⟨k9, ?_⟩
                  exact ⟨_, rfl, ((((((((h.2 c1).2 c2).1 c3).1 c4).1 c5).1 c6).1 c7).1 c8).2⟩
                · have k10 := ((((((((h.2 c1).2 c2).1 c3).1 c4).1 c5).1 c6).1 c7).2 c8).1
                  refine ⟨k10, ?_⟩
                  refine gj_goq gj_clT ok_136 [50] ?_
                  show QL Q (some (.long (SJ 63 (gj_n a1)))) SI SJ
                  exact ⟨_, rfl, ((((((((h.2 c1).2 c2).1 c3).1 c4).1 c5).1 c6).1 c7).2 c8).2⟩
              · have k11 := (((((((h.2 c1).2 c2).1 c3).1 c4).1 c5).1 c6).2 c7).1
                refine ⟨k11, ?_⟩
                exact ⟨_, rfl, (((((((h.2 c1).2 c2).1 c3).1 c4).1 c5).1 c6).2 c7).2⟩
            · exact ⟨_, rfl, ((((((h.2 c1).2 c2).1 c3).1 c4).1 c5).2 c6)⟩
          · refine ⟨fun c12 => ?_, fun c12 => ?_⟩
            · refine gj_goq gj_clT ok_136 [50] ?_
              show QL Q (some (.long (i6 (-9000000000000000000)))) SI SJ
              exact ⟨_, rfl, ((((((h.2 c1).2 c2).1 c3).1 c4).2 c5).1 c12)⟩
            · refine gj_goq gj_clT ok_136 [50] ?_
              show QL Q (some (.long (i3 0).toInt64)) SI SJ
              exact ⟨_, rfl, ((((((h.2 c1).2 c2).1 c3).1 c4).2 c5).2 c12)⟩
        · refine ⟨fun c13 => ?_, fun c13 => ?_⟩
          · refine gj_goq gj_clT ok_136 [50] ?_
            show (¬ a1 = (i3 (-1)) → gj_Goes E om0 mt_136 76 [some (.ref 0), some (.int a1), some (.int a2), some (.int (i3 0))] [] SI SJ (QL Q)) ∧ (a1 = (i3 (-1)) → (¬ a2 = 0 → gj_Goes E om0 mt_136 72 [some (.ref 0), some (.int a1), some (.int a2), some (.int (i3 0))] [] SI SJ (QL Q)) ∧ (a2 = 0 → gj_Goes E om0 mt_136 75 [some (.ref 0), some (.int a1), some (.int a2), some (.int (i3 0))] [(.long (i3 0).toInt64)] SI SJ (QL Q)))
            refine ⟨fun c14 => ?_, fun c14 => ?_⟩
            · refine gj_goq gj_clT ok_136 [50] ?_
              show (a1 < (i3 0) → gj_Goes E om0 mt_136 85 [some (.ref 0), some (.int a1), some (.int a2), some (.int (i3 0))] [] SI SJ (QL Q)) ∧ (¬ a1 < (i3 0) → QL Q (some (.long (i6 (-9000000000000000000)))) SI SJ)
              refine ⟨fun c15 => ?_, fun c15 => ?_⟩
              · refine gj_goq gj_clT ok_136 [50] ?_
                show (¬ a2 = 0 → gj_Goes E om0 mt_136 99 [some (.ref 0), some (.int a1), some (.int a2), some (.int (i3 0))] [] SI SJ (QL Q)) ∧ (a2 = 0 → vp_in a1 14 ∧ (QL Q (some (.long (SJ 62 (gj_n a1)))) SI SJ))
                refine ⟨fun c16 => ?_, fun c16 => ?_⟩
                · refine gj_goq gj_clT ok_136 [50] ?_
                  show (¬ a2 = (i3 1) → gj_Goes E om0 mt_136 116 [some (.ref 0), some (.int a1), some (.int a2), some (.int (i3 0))] [] SI SJ (QL Q)) ∧ (a2 = (i3 1) → vp_in a1 14 ∧ (gj_Goes E om0 mt_136 125 [some (.ref 0), some (.int a1), some (.int a2), some (.int (i3 0))] [(.long (SJ 63 (gj_n a1)))] SI SJ (QL Q)))
                  refine ⟨fun c17 => ?_, fun c17 => ?_⟩
                  · refine gj_goq gj_clT ok_136 [50] ?_
                    show vp_in a1 14 ∧ (QL Q (some (.long (SJ 64 (gj_n a1)))) SI SJ)
                    have k18 := (((((((((h.2 c1).2 c2).1 c3).2 c4).1 c13).1 c14).1 c15).1 c16).1 c17).1
                    refine ⟨k18, ?_⟩
                    exact ⟨_, rfl, (((((((((h.2 c1).2 c2).1 c3).2 c4).1 c13).1 c14).1 c15).1 c16).1 c17).2⟩
                  · have k19 := (((((((((h.2 c1).2 c2).1 c3).2 c4).1 c13).1 c14).1 c15).1 c16).2 c17).1
                    refine ⟨k19, ?_⟩
                    refine gj_goq gj_clT ok_136 [50] ?_
                    show QL Q (some (.long (SJ 63 (gj_n a1)))) SI SJ
                    exact ⟨_, rfl, (((((((((h.2 c1).2 c2).1 c3).2 c4).1 c13).1 c14).1 c15).1 c16).2 c17).2⟩
                · have k20 := ((((((((h.2 c1).2 c2).1 c3).2 c4).1 c13).1 c14).1 c15).2 c16).1
                  refine ⟨k20, ?_⟩
                  exact ⟨_, rfl, ((((((((h.2 c1).2 c2).1 c3).2 c4).1 c13).1 c14).1 c15).2 c16).2⟩
              · exact ⟨_, rfl, (((((((h.2 c1).2 c2).1 c3).2 c4).1 c13).1 c14).2 c15)⟩
            · refine ⟨fun c21 => ?_, fun c21 => ?_⟩
              · refine gj_goq gj_clT ok_136 [50] ?_
                show QL Q (some (.long (i6 (-9000000000000000000)))) SI SJ
                exact ⟨_, rfl, (((((((h.2 c1).2 c2).1 c3).2 c4).1 c13).2 c14).1 c21)⟩
              · refine gj_goq gj_clT ok_136 [50] ?_
                show QL Q (some (.long (i3 0).toInt64)) SI SJ
                exact ⟨_, rfl, (((((((h.2 c1).2 c2).1 c3).2 c4).1 c13).2 c14).2 c21)⟩
          · refine gj_Do.mono (((((h.2 c1).2 c2).1 c3).2 c4).2 c13) (fun v_ SI2 SJ2 h_ => ?_)
            obtain ⟨rfl, q22⟩ := h_
            show gj_Goes E om0 mt_136 50 [some (.ref 0), some (.int a1), some (.int a2), some (.int (i3 0))] [] SI2 SJ2 (QL Q)
            refine gj_goq gj_clT ok_136 [50] ?_
            show (¬ a1 = (i3 (-1)) → gj_Goes E om0 mt_136 76 [some (.ref 0), some (.int a1), some (.int a2), some (.int (SI2 61 3))] [] SI2 SJ2 (QL Q)) ∧ (a1 = (i3 (-1)) → (¬ a2 = 0 → gj_Goes E om0 mt_136 72 [some (.ref 0), some (.int a1), some (.int a2), some (.int (SI2 61 3))] [] SI2 SJ2 (QL Q)) ∧ (a2 = 0 → gj_Goes E om0 mt_136 75 [some (.ref 0), some (.int a1), some (.int a2), some (.int (SI2 61 3))] [(.long (SI2 61 3).toInt64)] SI2 SJ2 (QL Q)))
            refine ⟨fun c23 => ?_, fun c23 => ?_⟩
            · refine gj_goq gj_clT ok_136 [50] ?_
              show (a1 < (SI2 61 3) → gj_Goes E om0 mt_136 85 [some (.ref 0), some (.int a1), some (.int a2), some (.int (SI2 61 3))] [] SI2 SJ2 (QL Q)) ∧ (¬ a1 < (SI2 61 3) → QL Q (some (.long (i6 (-9000000000000000000)))) SI2 SJ2)
              refine ⟨fun c24 => ?_, fun c24 => ?_⟩
              · refine gj_goq gj_clT ok_136 [50] ?_
                show (¬ a2 = 0 → gj_Goes E om0 mt_136 99 [some (.ref 0), some (.int a1), some (.int a2), some (.int (SI2 61 3))] [] SI2 SJ2 (QL Q)) ∧ (a2 = 0 → vp_in a1 14 ∧ (QL Q (some (.long (SJ2 62 (gj_n a1)))) SI2 SJ2))
                refine ⟨fun c25 => ?_, fun c25 => ?_⟩
                · refine gj_goq gj_clT ok_136 [50] ?_
                  show (¬ a2 = (i3 1) → gj_Goes E om0 mt_136 116 [some (.ref 0), some (.int a1), some (.int a2), some (.int (SI2 61 3))] [] SI2 SJ2 (QL Q)) ∧ (a2 = (i3 1) → vp_in a1 14 ∧ (gj_Goes E om0 mt_136 125 [some (.ref 0), some (.int a1), some (.int a2), some (.int (SI2 61 3))] [(.long (SJ2 63 (gj_n a1)))] SI2 SJ2 (QL Q)))
                  refine ⟨fun c26 => ?_, fun c26 => ?_⟩
                  · refine gj_goq gj_clT ok_136 [50] ?_
                    show vp_in a1 14 ∧ (QL Q (some (.long (SJ2 64 (gj_n a1)))) SI2 SJ2)
                    have k27 := ((((q22.1 c23).1 c24).1 c25).1 c26).1
                    refine ⟨k27, ?_⟩
                    exact ⟨_, rfl, ((((q22.1 c23).1 c24).1 c25).1 c26).2⟩
                  · have k28 := ((((q22.1 c23).1 c24).1 c25).2 c26).1
                    refine ⟨k28, ?_⟩
                    refine gj_goq gj_clT ok_136 [50] ?_
                    show QL Q (some (.long (SJ2 63 (gj_n a1)))) SI2 SJ2
                    exact ⟨_, rfl, ((((q22.1 c23).1 c24).1 c25).2 c26).2⟩
                · have k29 := (((q22.1 c23).1 c24).2 c25).1
                  refine ⟨k29, ?_⟩
                  exact ⟨_, rfl, (((q22.1 c23).1 c24).2 c25).2⟩
              · exact ⟨_, rfl, ((q22.1 c23).2 c24)⟩
            · refine ⟨fun c30 => ?_, fun c30 => ?_⟩
              · refine gj_goq gj_clT ok_136 [50] ?_
                show QL Q (some (.long (i6 (-9000000000000000000)))) SI2 SJ2
                exact ⟨_, rfl, ((q22.2 c23).1 c30)⟩
              · refine gj_goq gj_clT ok_136 [50] ?_
                show QL Q (some (.long (SI2 61 3).toInt64)) SI2 SJ2
                exact ⟨_, rfl, ((q22.2 c23).2 c30)⟩
      · exact ⟨_, rfl, (((h.2 c1).2 c2).2 c3)⟩
set_option maxRecDepth 20000 in
/-- GraspJudge.weak -/
theorem st_137 {E : gj_E} {Q : Int64 → gj_I → gj_J → Prop} (a1 : Int32) (SI : gj_I) (SJ : gj_J) (h : ((SI 0 13) = 0 → Q (i6 (-9000000000000000000)) SI SJ) ∧ (¬ (SI 0 13) = 0 → (a1 < 0 → Q (i6 (-9000000000000000000)) SI SJ) ∧ (¬ a1 < 0 → (a1 ≤ (i3 6) → DoV E 53 [(.ref 52), (.ref 42)] SI SJ (fun SI2 SJ2 => (a1 = (i3 0) → Q (SJ2 53 0) SI2 SJ2) ∧ (a1 = (i3 1) → Q (SJ2 53 1) SI2 SJ2) ∧ (a1 = (i3 2) → Q (SJ2 52 3) SI2 SJ2) ∧ (a1 = (i3 3) → Q (SJ2 52 4) SI2 SJ2) ∧ (a1 = (i3 4) → Q (SJ2 52 5) SI2 SJ2) ∧ (a1 = (i3 5) → Q (SJ2 52 6) SI2 SJ2) ∧ (a1.toInt < 0 ∨ 5 < a1.toInt → Q (SI2 52 2).toInt64 SI2 SJ2))) ∧ (¬ a1 ≤ (i3 6) → Q (i6 (-9000000000000000000)) SI SJ)))) : DoL E 137 [(.ref 0), (.int a1)] SI SJ Q := by
  refine gj_start (M := mt_137) ok_137 (Nat.le_of_ble_eq_true rfl) ?_
  refine gj_goq gj_clT ok_137 [32] ?_
  show ((SI 0 13) = 0 → gj_Goes E om0 mt_137 17 [some (.ref 0), some (.int a1)] [] SI SJ (QL Q)) ∧ (¬ (SI 0 13) = 0 → (a1 < 0 → gj_Goes E om0 mt_137 17 [some (.ref 0), some (.int a1)] [] SI SJ (QL Q)) ∧ (¬ a1 < 0 → (a1 ≤ (i3 6) → gj_Goes E om0 mt_137 21 [some (.ref 0), some (.int a1)] [] SI SJ (QL Q)) ∧ (¬ a1 ≤ (i3 6) → QL Q (some (.long (i6 (-9000000000000000000)))) SI SJ)))
  refine ⟨fun c1 => ?_, fun c1 => ?_⟩
  · refine gj_goq gj_clT ok_137 [32] ?_
    show QL Q (some (.long (i6 (-9000000000000000000)))) SI SJ
    exact ⟨_, rfl, (h.1 c1)⟩
  · refine ⟨fun c2 => ?_, fun c2 => ?_⟩
    · refine gj_goq gj_clT ok_137 [32] ?_
      show QL Q (some (.long (i6 (-9000000000000000000)))) SI SJ
      exact ⟨_, rfl, ((h.2 c1).1 c2)⟩
    · refine ⟨fun c3 => ?_, fun c3 => ?_⟩
      · refine gj_goq gj_clT ok_137 [32] ?_
        show gj_Do E om0 (gj_mt 53) [(.ref 52), (.ref 42)] SI SJ _
        refine gj_Do.mono (((h.2 c1).2 c2).1 c3) (fun v_ SI2 SJ2 h_ => ?_)
        obtain ⟨rfl, q4⟩ := h_
        show gj_Goes E om0 mt_137 32 [some (.ref 0), some (.int a1)] [] SI2 SJ2 (QL Q)
        refine gj_goq gj_clT ok_137 [32] ?_
        show ((a1 = Int32.ofInt (0) → gj_Goes E om0 mt_137 72 [some (.ref 0), some (.int a1)] [] SI2 SJ2 (QL Q)) ∧ (a1 = Int32.ofInt (1) → gj_Goes E om0 mt_137 83 [some (.ref 0), some (.int a1)] [] SI2 SJ2 (QL Q)) ∧ (a1 = Int32.ofInt (2) → gj_Goes E om0 mt_137 94 [some (.ref 0), some (.int a1)] [] SI2 SJ2 (QL Q)) ∧ (a1 = Int32.ofInt (3) → gj_Goes E om0 mt_137 102 [some (.ref 0), some (.int a1)] [] SI2 SJ2 (QL Q)) ∧ (a1 = Int32.ofInt (4) → gj_Goes E om0 mt_137 110 [some (.ref 0), some (.int a1)] [] SI2 SJ2 (QL Q)) ∧ (a1 = Int32.ofInt (5) → gj_Goes E om0 mt_137 118 [some (.ref 0), some (.int a1)] [] SI2 SJ2 (QL Q)) ∧ True) ∧ (a1.toInt < 0 ∨ 5 < a1.toInt → gj_Goes E om0 mt_137 126 [some (.ref 0), some (.int a1)] [] SI2 SJ2 (QL Q))
        refine ⟨⟨fun c5 => ?_, ⟨fun c5 => ?_, ⟨fun c5 => ?_, ⟨fun c5 => ?_, ⟨fun c5 => ?_, ⟨fun c5 => ?_, trivial⟩⟩⟩⟩⟩⟩, fun c5 => ?_⟩
        · refine gj_goq gj_clT ok_137 [32] ?_
          show QL Q (some (.long (SJ2 53 0))) SI2 SJ2
          exact ⟨_, rfl, (q4.1 c5)⟩
        · refine gj_goq gj_clT ok_137 [32] ?_
          show QL Q (some (.long (SJ2 53 1))) SI2 SJ2
          exact ⟨_, rfl, (q4.2.1 c5)⟩
        · refine gj_goq gj_clT ok_137 [32] ?_
          show QL Q (some (.long (SJ2 52 3))) SI2 SJ2
          exact ⟨_, rfl, (q4.2.2.1 c5)⟩
        · refine gj_goq gj_clT ok_137 [32] ?_
          show QL Q (some (.long (SJ2 52 4))) SI2 SJ2
          exact ⟨_, rfl, (q4.2.2.2.1 c5)⟩
        · refine gj_goq gj_clT ok_137 [32] ?_
          show QL Q (some (.long (SJ2 52 5))) SI2 SJ2
          exact ⟨_, rfl, (q4.2.2.2.2.1 c5)⟩
        · refine gj_goq gj_clT ok_137 [32] ?_
          show QL Q (some (.long (SJ2 52 6))) SI2 SJ2
          exact ⟨_, rfl, (q4.2.2.2.2.2.1 c5)⟩
        · refine gj_goq gj_clT ok_137 [32] ?_
          show QL Q (some (.long (SI2 52 2).toInt64)) SI2 SJ2
          exact ⟨_, rfl, (q4.2.2.2.2.2.2 c5)⟩
      · exact ⟨_, rfl, (((h.2 c1).2 c2).2 c3)⟩
set_option maxRecDepth 20000 in
/-- GraspJudge.proof -/
theorem st_138 {E : gj_E} {Q : Int64 → gj_I → gj_J → Prop} (a1 : Int32) (SI : gj_I) (SJ : gj_J) (h : ((SI 0 13) = 0 → Q (i6 (-9000000000000000000)) SI SJ) ∧ (¬ (SI 0 13) = 0 → (a1 < 0 → Q (i6 (-9000000000000000000)) SI SJ) ∧ (¬ a1 < 0 → (a1 ≤ (i3 5) → DoI E 11 [(.ref 42)] SI SJ (fun r1 SI2 SJ2 => (¬ a1 = 0 → (¬ a1 = (i3 1) → DoI E 284 [(.int r1)] SI2 SJ2 (fun r3 SI4 SJ4 => (¬ r3 = (i3 4) → Q (i6 (-2)) SI4 SJ4) ∧ (r3 = (i3 4) → DoL E 12 [(.ref 42), (.int r1), (.int (a1 - (i3 2)))] SI4 SJ4 (fun r5 SI6 SJ6 => Q r5 SI6 SJ6)))) ∧ (a1 = (i3 1) → Q (r1).toInt64 SI2 SJ2)) ∧ (a1 = 0 → DoI E 284 [(.int r1)] SI2 SJ2 (fun r7 SI8 SJ8 => Q (r7).toInt64 SI8 SJ8)))) ∧ (¬ a1 ≤ (i3 5) → Q (i6 (-9000000000000000000)) SI SJ)))) : DoL E 138 [(.ref 0), (.int a1)] SI SJ Q := by
  refine gj_start (M := mt_138) ok_138 (Nat.le_of_ble_eq_true rfl) ?_
  refine gj_goq gj_clT ok_138 [27, 36, 50, 65] ?_
  show ((SI 0 13) = 0 → gj_Goes E om0 mt_138 16 [some (.ref 0), some (.int a1), none] [] SI SJ (QL Q)) ∧ (¬ (SI 0 13) = 0 → (a1 < 0 → gj_Goes E om0 mt_138 16 [some (.ref 0), some (.int a1), none] [] SI SJ (QL Q)) ∧ (¬ a1 < 0 → (a1 ≤ (i3 5) → gj_Goes E om0 mt_138 20 [some (.ref 0), some (.int a1), none] [] SI SJ (QL Q)) ∧ (¬ a1 ≤ (i3 5) → QL Q (some (.long (i6 (-9000000000000000000)))) SI SJ)))
  refine ⟨fun c1 => ?_, fun c1 => ?_⟩
  · refine gj_goq gj_clT ok_138 [27, 36, 50, 65] ?_
    show QL Q (some (.long (i6 (-9000000000000000000)))) SI SJ
    exact ⟨_, rfl, (h.1 c1)⟩
  · refine ⟨fun c2 => ?_, fun c2 => ?_⟩
    · refine gj_goq gj_clT ok_138 [27, 36, 50, 65] ?_
      show QL Q (some (.long (i6 (-9000000000000000000)))) SI SJ
      exact ⟨_, rfl, ((h.2 c1).1 c2)⟩
    · refine ⟨fun c3 => ?_, fun c3 => ?_⟩
      · refine gj_goq gj_clT ok_138 [27, 36, 50, 65] ?_
        show gj_Do E om0 (gj_mt 11) [(.ref 42)] SI SJ _
        refine gj_Do.mono (((h.2 c1).2 c2).1 c3) (fun v_ SI2 SJ2 h_ => ?_)
        obtain ⟨r1, rfl, q4⟩ := h_
        show gj_Goes E om0 mt_138 27 [some (.ref 0), some (.int a1), none] [(.int r1)] SI2 SJ2 (QL Q)
        refine gj_goq gj_clT ok_138 [27, 36, 50, 65] ?_
        show (¬ a1 = 0 → gj_Goes E om0 mt_138 38 [some (.ref 0), some (.int a1), some (.int r1)] [] SI2 SJ2 (QL Q)) ∧ (a1 = 0 → gj_Do E om0 (gj_mt 284) [(.int r1)] SI2 SJ2 _)
        refine ⟨fun c5 => ?_, fun c5 => ?_⟩
        · refine gj_goq gj_clT ok_138 [27, 36, 50, 65] ?_
          show (¬ a1 = (i3 1) → gj_Goes E om0 mt_138 46 [some (.ref 0), some (.int a1), some (.int r1)] [] SI2 SJ2 (QL Q)) ∧ (a1 = (i3 1) → QL Q (some (.long (r1).toInt64)) SI2 SJ2)
          refine ⟨fun c6 => ?_, fun c6 => ?_⟩
          · refine gj_goq gj_clT ok_138 [27, 36, 50, 65] ?_
            show gj_Do E om0 (gj_mt 284) [(.int r1)] SI2 SJ2 _
            refine gj_Do.mono ((q4.1 c5).1 c6) (fun v_ SI4 SJ4 h_ => ?_)
            obtain ⟨r3, rfl, q7⟩ := h_
            show gj_Goes E om0 mt_138 50 [some (.ref 0), some (.int a1), some (.int r1)] [(.int r3)] SI4 SJ4 (QL Q)
            refine gj_goq gj_clT ok_138 [27, 36, 50, 65] ?_
            show (¬ r3 = (i3 4) → gj_Goes E om0 mt_138 68 [some (.ref 0), some (.int a1), some (.int r1)] [] SI4 SJ4 (QL Q)) ∧ (r3 = (i3 4) → gj_Do E om0 (gj_mt 12) [(.ref 42), (.int r1), (.int (a1 - (i3 2)))] SI4 SJ4 _)
            refine ⟨fun c8 => ?_, fun c8 => ?_⟩
            · refine gj_goq gj_clT ok_138 [27, 36, 50, 65] ?_
              show QL Q (some (.long (i6 (-2)))) SI4 SJ4
              exact ⟨_, rfl, (q7.1 c8)⟩
            · refine gj_Do.mono (q7.2 c8) (fun v_ SI6 SJ6 h_ => ?_)
              obtain ⟨r5, rfl, q9⟩ := h_
              show gj_Goes E om0 mt_138 65 [some (.ref 0), some (.int a1), some (.int r1)] [(.long r5)] SI6 SJ6 (QL Q)
              refine gj_goq gj_clT ok_138 [27, 36, 50, 65] ?_
              show gj_Goes E om0 mt_138 71 [some (.ref 0), some (.int a1), some (.int r1)] [(.long r5)] SI6 SJ6 (QL Q)
              refine gj_goq gj_clT ok_138 [27, 36, 50, 65] ?_
              show QL Q (some (.long r5)) SI6 SJ6
              exact ⟨_, rfl, q9⟩
          · exact ⟨_, rfl, ((q4.1 c5).2 c6)⟩
        · refine gj_Do.mono (q4.2 c5) (fun v_ SI8 SJ8 h_ => ?_)
          obtain ⟨r7, rfl, q10⟩ := h_
          show gj_Goes E om0 mt_138 36 [some (.ref 0), some (.int a1), some (.int r1)] [(.int r7)] SI8 SJ8 (QL Q)
          refine gj_goq gj_clT ok_138 [27, 36, 50, 65] ?_
          show QL Q (some (.long (r7).toInt64)) SI8 SJ8
          exact ⟨_, rfl, q10⟩
      · exact ⟨_, rfl, (((h.2 c1).2 c2).2 c3)⟩
set_option maxRecDepth 20000 in
/-- GraspJudge.held -/
theorem st_139 {E : gj_E} {Q : Int32 → gj_I → gj_J → Prop} (a1 : Int32) (a2 : Int32) (a3 : Int32) (SI : gj_I) (SJ : gj_J) (h : DoI E 153 [(.int a1), (.int a2), (.int a3)] SI SJ (fun r1 SI2 SJ2 => (¬ r1 = 0 → DoI E 16 [(.ref 55), (.ref 42), (.long (a1).toInt64), (.long (a2).toInt64), (.long (a3).toInt64)] SI2 SJ2 (fun r3 SI4 SJ4 => DoI E 152 [(.int r3)] SI4 SJ4 (fun r5 SI6 SJ6 => Q r5 SI6 SJ6))) ∧ (r1 = 0 → Q (i3 (-1)) SI2 SJ2))) : DoI E 139 [(.ref 0), (.int a1), (.int a2), (.int a3)] SI SJ Q := by
  refine gj_start (M := mt_139) ok_139 (Nat.le_of_ble_eq_true rfl) ?_
  refine gj_goq gj_clT ok_139 [6, 28, 31] ?_
  show gj_Do E om0 (gj_mt 153) [(.int a1), (.int a2), (.int a3)] SI SJ _
  refine gj_Do.mono h (fun v_ SI2 SJ2 h_ => ?_)
  obtain ⟨r1, rfl, q1⟩ := h_
  show gj_Goes E om0 mt_139 6 [some (.ref 0), some (.int a1), some (.int a2), some (.int a3)] [(.int r1)] SI2 SJ2 (QI Q)
  refine gj_goq gj_clT ok_139 [6, 28, 31] ?_
  show (¬ r1 = 0 → gj_Goes E om0 mt_139 11 [some (.ref 0), some (.int a1), some (.int a2), some (.int a3)] [] SI2 SJ2 (QI Q)) ∧ (r1 = 0 → QI Q (some (.int (i3 (-1)))) SI2 SJ2)
  refine ⟨fun c2 => ?_, fun c2 => ?_⟩
  · refine gj_goq gj_clT ok_139 [6, 28, 31] ?_
    show gj_Do E om0 (gj_mt 16) [(.ref 55), (.ref 42), (.long (a1).toInt64), (.long (a2).toInt64), (.long (a3).toInt64)] SI2 SJ2 _
    refine gj_Do.mono (q1.1 c2) (fun v_ SI4 SJ4 h_ => ?_)
    obtain ⟨r3, rfl, q3⟩ := h_
    show gj_Goes E om0 mt_139 28 [some (.ref 0), some (.int a1), some (.int a2), some (.int a3)] [(.int r3)] SI4 SJ4 (QI Q)
    refine gj_goq gj_clT ok_139 [6, 28, 31] ?_
    show gj_Do E om0 (gj_mt 152) [(.int r3)] SI4 SJ4 _
    refine gj_Do.mono q3 (fun v_ SI6 SJ6 h_ => ?_)
    obtain ⟨r5, rfl, q4⟩ := h_
    show gj_Goes E om0 mt_139 31 [some (.ref 0), some (.int a1), some (.int a2), some (.int a3)] [(.int r5)] SI6 SJ6 (QI Q)
    refine gj_goq gj_clT ok_139 [6, 28, 31] ?_
    show QI Q (some (.int r5)) SI6 SJ6
    exact ⟨_, rfl, q4⟩
  · exact ⟨_, rfl, (q1.2 c2)⟩
set_option maxRecDepth 20000 in
/-- GraspJudge.effort -/
theorem st_140 {E : gj_E} {Q : Int64 → gj_I → gj_J → Prop} (a1 : Int32) (a2 : Int32) (a3 : Int32) (a4 : Int32) (SI : gj_I) (SJ : gj_J) (h : DoI E 153 [(.int a1), (.int a2), (.int a3)] SI SJ (fun r1 SI2 SJ2 => (r1 = 0 → Q (i6 (-9000000000000000000)) SI2 SJ2) ∧ (¬ r1 = 0 → (a4 < 0 → Q (i6 (-9000000000000000000)) SI2 SJ2) ∧ (¬ a4 < 0 → (a4 ≤ (i3 1) → DoI E 16 [(.ref 55), (.ref 42), (.long (a1).toInt64), (.long (a2).toInt64), (.long (a3).toInt64)] SI2 SJ2 (fun r3 SI4 SJ4 => (¬ r3 = 0 → (¬ a4 = 0 → Q (SJ4 56 1) SI4 SJ4) ∧ (a4 = 0 → Q (SJ4 56 0) SI4 SJ4)) ∧ (r3 = 0 → Q (i6 (-9000000000000000000)) SI4 SJ4))) ∧ (¬ a4 ≤ (i3 1) → Q (i6 (-9000000000000000000)) SI2 SJ2))))) : DoL E 140 [(.ref 0), (.int a1), (.int a2), (.int a3), (.int a4)] SI SJ Q := by
  refine gj_start (M := mt_140) ok_140 (Nat.le_of_ble_eq_true rfl) ?_
  refine gj_goq gj_clT ok_140 [6, 41] ?_
  show gj_Do E om0 (gj_mt 153) [(.int a1), (.int a2), (.int a3)] SI SJ _
  refine gj_Do.mono h (fun v_ SI2 SJ2 h_ => ?_)
  obtain ⟨r1, rfl, q1⟩ := h_
  show gj_Goes E om0 mt_140 6 [some (.ref 0), some (.int a1), some (.int a2), some (.int a3), some (.int a4)] [(.int r1)] SI2 SJ2 (QL Q)
  refine gj_goq gj_clT ok_140 [6, 41] ?_
  show (r1 = 0 → gj_Goes E om0 mt_140 20 [some (.ref 0), some (.int a1), some (.int a2), some (.int a3), some (.int a4)] [] SI2 SJ2 (QL Q)) ∧ (¬ r1 = 0 → (a4 < 0 → gj_Goes E om0 mt_140 20 [some (.ref 0), some (.int a1), some (.int a2), some (.int a3), some (.int a4)] [] SI2 SJ2 (QL Q)) ∧ (¬ a4 < 0 → (a4 ≤ (i3 1) → gj_Goes E om0 mt_140 24 [some (.ref 0), some (.int a1), some (.int a2), some (.int a3), some (.int a4)] [] SI2 SJ2 (QL Q)) ∧ (¬ a4 ≤ (i3 1) → QL Q (some (.long (i6 (-9000000000000000000)))) SI2 SJ2)))
  refine ⟨fun c2 => ?_, fun c2 => ?_⟩
  · refine gj_goq gj_clT ok_140 [6, 41] ?_
    show QL Q (some (.long (i6 (-9000000000000000000)))) SI2 SJ2
    exact ⟨_, rfl, (q1.1 c2)⟩
  · refine ⟨fun c3 => ?_, fun c3 => ?_⟩
    · refine gj_goq gj_clT ok_140 [6, 41] ?_
      show QL Q (some (.long (i6 (-9000000000000000000)))) SI2 SJ2
      exact ⟨_, rfl, ((q1.2 c2).1 c3)⟩
    · refine ⟨fun c4 => ?_, fun c4 => ?_⟩
      · refine gj_goq gj_clT ok_140 [6, 41] ?_
        show gj_Do E om0 (gj_mt 16) [(.ref 55), (.ref 42), (.long (a1).toInt64), (.long (a2).toInt64), (.long (a3).toInt64)] SI2 SJ2 _
        refine gj_Do.mono (((q1.2 c2).2 c3).1 c4) (fun v_ SI4 SJ4 h_ => ?_)
        obtain ⟨r3, rfl, q5⟩ := h_
        show gj_Goes E om0 mt_140 41 [some (.ref 0), some (.int a1), some (.int a2), some (.int a3), some (.int a4)] [(.int r3)] SI4 SJ4 (QL Q)
        refine gj_goq gj_clT ok_140 [6, 41] ?_
        show (¬ r3 = 0 → gj_Goes E om0 mt_140 48 [some (.ref 0), some (.int a1), some (.int a2), some (.int a3), some (.int a4)] [] SI4 SJ4 (QL Q)) ∧ (r3 = 0 → QL Q (some (.long (i6 (-9000000000000000000)))) SI4 SJ4)
        refine ⟨fun c6 => ?_, fun c6 => ?_⟩
        · refine gj_goq gj_clT ok_140 [6, 41] ?_
          show (¬ a4 = 0 → gj_Goes E om0 mt_140 66 [some (.ref 0), some (.int a1), some (.int a2), some (.int a3), some (.int a4)] [] SI4 SJ4 (QL Q)) ∧ (a4 = 0 → gj_Goes E om0 mt_140 76 [some (.ref 0), some (.int a1), some (.int a2), some (.int a3), some (.int a4)] [(.long (SJ4 56 0))] SI4 SJ4 (QL Q))
          refine ⟨fun c7 => ?_, fun c7 => ?_⟩
          · refine gj_goq gj_clT ok_140 [6, 41] ?_
            show QL Q (some (.long (SJ4 56 1))) SI4 SJ4
            exact ⟨_, rfl, ((q5.1 c6).1 c7)⟩
          · refine gj_goq gj_clT ok_140 [6, 41] ?_
            show QL Q (some (.long (SJ4 56 0))) SI4 SJ4
            exact ⟨_, rfl, ((q5.1 c6).2 c7)⟩
        · exact ⟨_, rfl, (q5.2 c6)⟩
      · exact ⟨_, rfl, (((q1.2 c2).2 c3).2 c4)⟩
set_option maxRecDepth 20000 in
/-- GraspJudge.holder -/
theorem st_141 {E : gj_E} {Q : Int64 → gj_I → gj_J → Prop} (a1 : Int32) (a2 : Int32) (a3 : Int32) (a4 : Int32) (a5 : Int32) (SI : gj_I) (SJ : gj_J) (h : DoI E 153 [(.int a1), (.int a2), (.int a3)] SI SJ (fun r1 SI2 SJ2 => (r1 = 0 → Q (i6 (-9000000000000000000)) SI2 SJ2) ∧ (¬ r1 = 0 → (a4 < (i3 (-1)) → Q (i6 (-9000000000000000000)) SI2 SJ2) ∧ (¬ a4 < (i3 (-1)) → (a5 < 0 → Q (i6 (-9000000000000000000)) SI2 SJ2) ∧ (¬ a5 < 0 → (a5 ≤ (i3 2) → DoI E 16 [(.ref 55), (.ref 42), (.long (a1).toInt64), (.long (a2).toInt64), (.long (a3).toInt64)] SI2 SJ2 (fun r3 SI4 SJ4 => (r3 = 0 → Q (i6 (-9000000000000000000)) SI4 SJ4) ∧ (¬ r3 = 0 → (a4 < (SI4 55 5) → (¬ a4 = (i3 (-1)) → (¬ a5 = 0 → vp_in a4 3 ∧ (DoV E 14 [(.ref 57), (.long (SJ4 59 (gj_n a4))), (.long (SJ4 55 6))] SI4 SJ4 (fun SI6 SJ6 => (¬ a5 = (i3 1) → Q (SJ6 57 1) SI6 SJ6) ∧ (a5 = (i3 1) → Q (SJ6 57 0) SI6 SJ6)))) ∧ (a5 = 0 → vp_in a4 3 ∧ (Q (SI4 58 (gj_n a4)).toInt64 SI4 SJ4))) ∧ (a4 = (i3 (-1)) → (¬ a5 = 0 → Q (i6 (-9000000000000000000)) SI4 SJ4) ∧ (a5 = 0 → Q (SI4 55 5).toInt64 SI4 SJ4))) ∧ (¬ a4 < (SI4 55 5) → Q (i6 (-9000000000000000000)) SI4 SJ4)))) ∧ (¬ a5 ≤ (i3 2) → Q (i6 (-9000000000000000000)) SI2 SJ2)))))) : DoL E 141 [(.ref 0), (.int a1), (.int a2), (.int a3), (.int a4), (.int a5)] SI SJ Q := by
  refine gj_start (M := mt_141) ok_141 (Nat.le_of_ble_eq_true rfl) ?_
  refine gj_goq gj_clT ok_141 [6, 47, 136] ?_
  show gj_Do E om0 (gj_mt 153) [(.int a1), (.int a2), (.int a3)] SI SJ _
  refine gj_Do.mono h (fun v_ SI2 SJ2 h_ => ?_)
  obtain ⟨r1, rfl, q1⟩ := h_
  show gj_Goes E om0 mt_141 6 [some (.ref 0), some (.int a1), some (.int a2), some (.int a3), some (.int a4), some (.int a5)] [(.int r1)] SI2 SJ2 (QL Q)
  refine gj_goq gj_clT ok_141 [6, 47, 136] ?_
  show (r1 = 0 → gj_Goes E om0 mt_141 26 [some (.ref 0), some (.int a1), some (.int a2), some (.int a3), some (.int a4), some (.int a5)] [] SI2 SJ2 (QL Q)) ∧ (¬ r1 = 0 → (a4 < (i3 (-1)) → gj_Goes E om0 mt_141 26 [some (.ref 0), some (.int a1), some (.int a2), some (.int a3), some (.int a4), some (.int a5)] [] SI2 SJ2 (QL Q)) ∧ (¬ a4 < (i3 (-1)) → (a5 < 0 → gj_Goes E om0 mt_141 26 [some (.ref 0), some (.int a1), some (.int a2), some (.int a3), some (.int a4), some (.int a5)] [] SI2 SJ2 (QL Q)) ∧ (¬ a5 < 0 → (a5 ≤ (i3 2) → gj_Goes E om0 mt_141 30 [some (.ref 0), some (.int a1), some (.int a2), some (.int a3), some (.int a4), some (.int a5)] [] SI2 SJ2 (QL Q)) ∧ (¬ a5 ≤ (i3 2) → QL Q (some (.long (i6 (-9000000000000000000)))) SI2 SJ2))))
  refine ⟨fun c2 => ?_, fun c2 => ?_⟩
  · refine gj_goq gj_clT ok_141 [6, 47, 136] ?_
    show QL Q (some (.long (i6 (-9000000000000000000)))) SI2 SJ2
    exact ⟨_, rfl, (q1.1 c2)⟩
  · refine ⟨fun c3 => ?_, fun c3 => ?_⟩
    · refine gj_goq gj_clT ok_141 [6, 47, 136] ?_
      show QL Q (some (.long (i6 (-9000000000000000000)))) SI2 SJ2
      exact ⟨_, rfl, ((q1.2 c2).1 c3)⟩
    · refine ⟨fun c4 => ?_, fun c4 => ?_⟩
      · refine gj_goq gj_clT ok_141 [6, 47, 136] ?_
        show QL Q (some (.long (i6 (-9000000000000000000)))) SI2 SJ2
        exact ⟨_, rfl, (((q1.2 c2).2 c3).1 c4)⟩
      · refine ⟨fun c5 => ?_, fun c5 => ?_⟩
        · refine gj_goq gj_clT ok_141 [6, 47, 136] ?_
          show gj_Do E om0 (gj_mt 16) [(.ref 55), (.ref 42), (.long (a1).toInt64), (.long (a2).toInt64), (.long (a3).toInt64)] SI2 SJ2 _
          refine gj_Do.mono ((((q1.2 c2).2 c3).2 c4).1 c5) (fun v_ SI4 SJ4 h_ => ?_)
          obtain ⟨r3, rfl, q6⟩ := h_
          show gj_Goes E om0 mt_141 47 [some (.ref 0), some (.int a1), some (.int a2), some (.int a3), some (.int a4), some (.int a5)] [(.int r3)] SI4 SJ4 (QL Q)
          refine gj_goq gj_clT ok_141 [6, 47, 136] ?_
          show (r3 = 0 → gj_Goes E om0 mt_141 62 [some (.ref 0), some (.int a1), some (.int a2), some (.int a3), some (.int a4), some (.int a5)] [] SI4 SJ4 (QL Q)) ∧ (¬ r3 = 0 → (a4 < (SI4 55 5) → gj_Goes E om0 mt_141 66 [some (.ref 0), some (.int a1), some (.int a2), some (.int a3), some (.int a4), some (.int a5)] [] SI4 SJ4 (QL Q)) ∧ (¬ a4 < (SI4 55 5) → QL Q (some (.long (i6 (-9000000000000000000)))) SI4 SJ4))
          refine ⟨fun c7 => ?_, fun c7 => ?_⟩
          · refine gj_goq gj_clT ok_141 [6, 47, 136] ?_
            show QL Q (some (.long (i6 (-9000000000000000000)))) SI4 SJ4
            exact ⟨_, rfl, (q6.1 c7)⟩
          · refine ⟨fun c8 => ?_, fun c8 => ?_⟩
            · refine gj_goq gj_clT ok_141 [6, 47, 136] ?_
              show (¬ a4 = (i3 (-1)) → gj_Goes E om0 mt_141 92 [some (.ref 0), some (.int a1), some (.int a2), some (.int a3), some (.int a4), some (.int a5)] [] SI4 SJ4 (QL Q)) ∧ (a4 = (i3 (-1)) → (¬ a5 = 0 → gj_Goes E om0 mt_141 88 [some (.ref 0), some (.int a1), some (.int a2), some (.int a3), some (.int a4), some (.int a5)] [] SI4 SJ4 (QL Q)) ∧ (a5 = 0 → gj_Goes E om0 mt_141 91 [some (.ref 0), some (.int a1), some (.int a2), some (.int a3), some (.int a4), some (.int a5)] [(.long (SI4 55 5).toInt64)] SI4 SJ4 (QL Q)))
              refine ⟨fun c9 => ?_, fun c9 => ?_⟩
              · refine gj_goq gj_clT ok_141 [6, 47, 136] ?_
                show (¬ a5 = 0 → gj_Goes E om0 mt_141 109 [some (.ref 0), some (.int a1), some (.int a2), some (.int a3), some (.int a4), some (.int a5)] [] SI4 SJ4 (QL Q)) ∧ (a5 = 0 → vp_in a4 3 ∧ (QL Q (some (.long (SI4 58 (gj_n a4)).toInt64)) SI4 SJ4))
                refine ⟨fun c10 => ?_, fun c10 => ?_⟩
                · refine gj_goq gj_clT ok_141 [6, 47, 136] ?_
                  show vp_in a4 3 ∧ (gj_Do E om0 (gj_mt 14) [(.ref 57), (.long (SJ4 59 (gj_n a4))), (.long (SJ4 55 6))] SI4 SJ4 _)
                  have k11 := ((((q6.2 c7).1 c8).1 c9).1 c10).1
                  refine ⟨k11, ?_⟩
                  refine gj_Do.mono ((((q6.2 c7).1 c8).1 c9).1 c10).2 (fun v_ SI6 SJ6 h_ => ?_)
                  obtain ⟨rfl, q12⟩ := h_
                  show gj_Goes E om0 mt_141 136 [some (.ref 0), some (.int a1), some (.int a2), some (.int a3), some (.int a4), some (.int a5)] [] SI6 SJ6 (QL Q)
                  refine gj_goq gj_clT ok_141 [6, 47, 136] ?_
                  show (¬ a5 = (i3 1) → gj_Goes E om0 mt_141 155 [some (.ref 0), some (.int a1), some (.int a2), some (.int a3), some (.int a4), some (.int a5)] [] SI6 SJ6 (QL Q)) ∧ (a5 = (i3 1) → gj_Goes E om0 mt_141 165 [some (.ref 0), some (.int a1), some (.int a2), some (.int a3), some (.int a4), some (.int a5)] [(.long (SJ6 57 0))] SI6 SJ6 (QL Q))
                  refine ⟨fun c13 => ?_, fun c13 => ?_⟩
                  · refine gj_goq gj_clT ok_141 [6, 47, 136] ?_
                    show QL Q (some (.long (SJ6 57 1))) SI6 SJ6
                    exact ⟨_, rfl, (q12.1 c13)⟩
                  · refine gj_goq gj_clT ok_141 [6, 47, 136] ?_
                    show QL Q (some (.long (SJ6 57 0))) SI6 SJ6
                    exact ⟨_, rfl, (q12.2 c13)⟩
                · have k14 := ((((q6.2 c7).1 c8).1 c9).2 c10).1
                  refine ⟨k14, ?_⟩
                  exact ⟨_, rfl, ((((q6.2 c7).1 c8).1 c9).2 c10).2⟩
              · refine ⟨fun c15 => ?_, fun c15 => ?_⟩
                · refine gj_goq gj_clT ok_141 [6, 47, 136] ?_
                  show QL Q (some (.long (i6 (-9000000000000000000)))) SI4 SJ4
                  exact ⟨_, rfl, ((((q6.2 c7).1 c8).2 c9).1 c15)⟩
                · refine gj_goq gj_clT ok_141 [6, 47, 136] ?_
                  show QL Q (some (.long (SI4 55 5).toInt64)) SI4 SJ4
                  exact ⟨_, rfl, ((((q6.2 c7).1 c8).2 c9).2 c15)⟩
            · exact ⟨_, rfl, ((q6.2 c7).2 c8)⟩
        · exact ⟨_, rfl, ((((q1.2 c2).2 c3).2 c4).2 c5)⟩
set_option maxRecDepth 20000 in
/-- GraspJudge.load -/
theorem st_142 {E : gj_E} {Q : Int64 → gj_I → gj_J → Prop} (a1 : Int32) (SI : gj_I) (SJ : gj_J) (h : (a1 = (i3 0) → Q (SI 3 12).toInt64 SI SJ) ∧ (a1 = (i3 1) → DoI E 144 [(.ref 0)] SI SJ (fun r1 SI2 SJ2 => Q (r1).toInt64 SI2 SJ2)) ∧ (a1 = (i3 2) → (¬ a1 = (i3 2) → DoL E 145 [(.ref 0), (.int (i3 0))] SI SJ (fun r3 SI4 SJ4 => Q r3 SI4 SJ4)) ∧ (a1 = (i3 2) → DoL E 145 [(.ref 0), (.int (i3 1))] SI SJ (fun r5 SI6 SJ6 => Q r5 SI6 SJ6))) ∧ (a1 = (i3 3) → (¬ a1 = (i3 2) → DoL E 145 [(.ref 0), (.int (i3 0))] SI SJ (fun r7 SI8 SJ8 => Q r7 SI8 SJ8)) ∧ (a1 = (i3 2) → DoL E 145 [(.ref 0), (.int (i3 1))] SI SJ (fun r9 SI10 SJ10 => Q r9 SI10 SJ10))) ∧ (a1 = (i3 4) → (¬ a1 = (i3 4) → DoL E 146 [(.ref 0), (.int (i3 0))] SI SJ (fun r11 SI12 SJ12 => Q r11 SI12 SJ12)) ∧ (a1 = (i3 4) → DoL E 146 [(.ref 0), (.int (i3 1))] SI SJ (fun r13 SI14 SJ14 => Q r13 SI14 SJ14))) ∧ (a1 = (i3 5) → (¬ a1 = (i3 4) → DoL E 146 [(.ref 0), (.int (i3 0))] SI SJ (fun r15 SI16 SJ16 => Q r15 SI16 SJ16)) ∧ (a1 = (i3 4) → DoL E 146 [(.ref 0), (.int (i3 1))] SI SJ (fun r17 SI18 SJ18 => Q r17 SI18 SJ18))) ∧ (a1.toInt < 0 ∨ 5 < a1.toInt → Q (i6 (-9000000000000000000)) SI SJ)) : DoL E 142 [(.ref 0), (.int a1)] SI SJ Q := by
  refine gj_start (M := mt_142) ok_142 (Nat.le_of_ble_eq_true rfl) ?_
  refine gj_goq gj_clT ok_142 [53, 69, 84] ?_
  show ((a1 = Int32.ofInt (0) → gj_Goes E om0 mt_142 40 [some (.ref 0), some (.int a1)] [] SI SJ (QL Q)) ∧ (a1 = Int32.ofInt (1) → gj_Goes E om0 mt_142 49 [some (.ref 0), some (.int a1)] [] SI SJ (QL Q)) ∧ (a1 = Int32.ofInt (2) → gj_Goes E om0 mt_142 55 [some (.ref 0), some (.int a1)] [] SI SJ (QL Q)) ∧ (a1 = Int32.ofInt (3) → gj_Goes E om0 mt_142 55 [some (.ref 0), some (.int a1)] [] SI SJ (QL Q)) ∧ (a1 = Int32.ofInt (4) → gj_Goes E om0 mt_142 70 [some (.ref 0), some (.int a1)] [] SI SJ (QL Q)) ∧ (a1 = Int32.ofInt (5) → gj_Goes E om0 mt_142 70 [some (.ref 0), some (.int a1)] [] SI SJ (QL Q)) ∧ True) ∧ (a1.toInt < 0 ∨ 5 < a1.toInt → gj_Goes E om0 mt_142 85 [some (.ref 0), some (.int a1)] [] SI SJ (QL Q))
  refine ⟨⟨fun c1 => ?_, ⟨fun c1 => ?_, ⟨fun c1 => ?_, ⟨fun c1 => ?_, ⟨fun c1 => ?_, ⟨fun c1 => ?_, trivial⟩⟩⟩⟩⟩⟩, fun c1 => ?_⟩
  · refine gj_goq gj_clT ok_142 [53, 69, 84] ?_
    show QL Q (some (.long (SI 3 12).toInt64)) SI SJ
    exact ⟨_, rfl, (h.1 c1)⟩
  · refine gj_goq gj_clT ok_142 [53, 69, 84] ?_
    show gj_Do E om0 (gj_mt 144) [(.ref 0)] SI SJ _
    refine gj_Do.mono (h.2.1 c1) (fun v_ SI2 SJ2 h_ => ?_)
    obtain ⟨r1, rfl, q2⟩ := h_
    show gj_Goes E om0 mt_142 53 [some (.ref 0), some (.int a1)] [(.int r1)] SI2 SJ2 (QL Q)
    refine gj_goq gj_clT ok_142 [53, 69, 84] ?_
    show QL Q (some (.long (r1).toInt64)) SI2 SJ2
    exact ⟨_, rfl, q2⟩
  · refine gj_goq gj_clT ok_142 [53, 69, 84] ?_
    show (¬ a1 = (i3 2) → gj_Goes E om0 mt_142 65 [some (.ref 0), some (.int a1)] [(.ref 0)] SI SJ (QL Q)) ∧ (a1 = (i3 2) → gj_Goes E om0 mt_142 66 [some (.ref 0), some (.int a1)] [(.int (i3 1)), (.ref 0)] SI SJ (QL Q))
    refine ⟨fun c3 => ?_, fun c3 => ?_⟩
    · refine gj_goq gj_clT ok_142 [53, 69, 84] ?_
      show gj_Do E om0 (gj_mt 145) [(.ref 0), (.int (i3 0))] SI SJ _
      refine gj_Do.mono ((h.2.2.1 c1).1 c3) (fun v_ SI4 SJ4 h_ => ?_)
      obtain ⟨r3, rfl, q4⟩ := h_
      show gj_Goes E om0 mt_142 69 [some (.ref 0), some (.int a1)] [(.long r3)] SI4 SJ4 (QL Q)
      refine gj_goq gj_clT ok_142 [53, 69, 84] ?_
      show QL Q (some (.long r3)) SI4 SJ4
      exact ⟨_, rfl, q4⟩
    · refine gj_goq gj_clT ok_142 [53, 69, 84] ?_
      show gj_Do E om0 (gj_mt 145) [(.ref 0), (.int (i3 1))] SI SJ _
      refine gj_Do.mono ((h.2.2.1 c1).2 c3) (fun v_ SI6 SJ6 h_ => ?_)
      obtain ⟨r5, rfl, q5⟩ := h_
      show gj_Goes E om0 mt_142 69 [some (.ref 0), some (.int a1)] [(.long r5)] SI6 SJ6 (QL Q)
      refine gj_goq gj_clT ok_142 [53, 69, 84] ?_
      show QL Q (some (.long r5)) SI6 SJ6
      exact ⟨_, rfl, q5⟩
  · refine gj_goq gj_clT ok_142 [53, 69, 84] ?_
    show (¬ a1 = (i3 2) → gj_Goes E om0 mt_142 65 [some (.ref 0), some (.int a1)] [(.ref 0)] SI SJ (QL Q)) ∧ (a1 = (i3 2) → gj_Goes E om0 mt_142 66 [some (.ref 0), some (.int a1)] [(.int (i3 1)), (.ref 0)] SI SJ (QL Q))
    refine ⟨fun c6 => ?_, fun c6 => ?_⟩
    · refine gj_goq gj_clT ok_142 [53, 69, 84] ?_
      show gj_Do E om0 (gj_mt 145) [(.ref 0), (.int (i3 0))] SI SJ _
      refine gj_Do.mono ((h.2.2.2.1 c1).1 c6) (fun v_ SI8 SJ8 h_ => ?_)
      obtain ⟨r7, rfl, q7⟩ := h_
      show gj_Goes E om0 mt_142 69 [some (.ref 0), some (.int a1)] [(.long r7)] SI8 SJ8 (QL Q)
      refine gj_goq gj_clT ok_142 [53, 69, 84] ?_
      show QL Q (some (.long r7)) SI8 SJ8
      exact ⟨_, rfl, q7⟩
    · refine gj_goq gj_clT ok_142 [53, 69, 84] ?_
      show gj_Do E om0 (gj_mt 145) [(.ref 0), (.int (i3 1))] SI SJ _
      refine gj_Do.mono ((h.2.2.2.1 c1).2 c6) (fun v_ SI10 SJ10 h_ => ?_)
      obtain ⟨r9, rfl, q8⟩ := h_
      show gj_Goes E om0 mt_142 69 [some (.ref 0), some (.int a1)] [(.long r9)] SI10 SJ10 (QL Q)
      refine gj_goq gj_clT ok_142 [53, 69, 84] ?_
      show QL Q (some (.long r9)) SI10 SJ10
      exact ⟨_, rfl, q8⟩
  · refine gj_goq gj_clT ok_142 [53, 69, 84] ?_
    show (¬ a1 = (i3 4) → gj_Goes E om0 mt_142 80 [some (.ref 0), some (.int a1)] [(.ref 0)] SI SJ (QL Q)) ∧ (a1 = (i3 4) → gj_Goes E om0 mt_142 81 [some (.ref 0), some (.int a1)] [(.int (i3 1)), (.ref 0)] SI SJ (QL Q))
    refine ⟨fun c9 => ?_, fun c9 => ?_⟩
    · refine gj_goq gj_clT ok_142 [53, 69, 84] ?_
      show gj_Do E om0 (gj_mt 146) [(.ref 0), (.int (i3 0))] SI SJ _
      refine gj_Do.mono ((h.2.2.2.2.1 c1).1 c9) (fun v_ SI12 SJ12 h_ => ?_)
      obtain ⟨r11, rfl, q10⟩ := h_
      show gj_Goes E om0 mt_142 84 [some (.ref 0), some (.int a1)] [(.long r11)] SI12 SJ12 (QL Q)
      refine gj_goq gj_clT ok_142 [53, 69, 84] ?_
      show QL Q (some (.long r11)) SI12 SJ12
      exact ⟨_, rfl, q10⟩
    · refine gj_goq gj_clT ok_142 [53, 69, 84] ?_
      show gj_Do E om0 (gj_mt 146) [(.ref 0), (.int (i3 1))] SI SJ _
      refine gj_Do.mono ((h.2.2.2.2.1 c1).2 c9) (fun v_ SI14 SJ14 h_ => ?_)
      obtain ⟨r13, rfl, q11⟩ := h_
      show gj_Goes E om0 mt_142 84 [some (.ref 0), some (.int a1)] [(.long r13)] SI14 SJ14 (QL Q)
      refine gj_goq gj_clT ok_142 [53, 69, 84] ?_
      show QL Q (some (.long r13)) SI14 SJ14
      exact ⟨_, rfl, q11⟩
  · refine gj_goq gj_clT ok_142 [53, 69, 84] ?_
    show (¬ a1 = (i3 4) → gj_Goes E om0 mt_142 80 [some (.ref 0), some (.int a1)] [(.ref 0)] SI SJ (QL Q)) ∧ (a1 = (i3 4) → gj_Goes E om0 mt_142 81 [some (.ref 0), some (.int a1)] [(.int (i3 1)), (.ref 0)] SI SJ (QL Q))
    refine ⟨fun c12 => ?_, fun c12 => ?_⟩
    · refine gj_goq gj_clT ok_142 [53, 69, 84] ?_
      show gj_Do E om0 (gj_mt 146) [(.ref 0), (.int (i3 0))] SI SJ _
      refine gj_Do.mono ((h.2.2.2.2.2.1 c1).1 c12) (fun v_ SI16 SJ16 h_ => ?_)
      obtain ⟨r15, rfl, q13⟩ := h_
      show gj_Goes E om0 mt_142 84 [some (.ref 0), some (.int a1)] [(.long r15)] SI16 SJ16 (QL Q)
      refine gj_goq gj_clT ok_142 [53, 69, 84] ?_
      show QL Q (some (.long r15)) SI16 SJ16
      exact ⟨_, rfl, q13⟩
    · refine gj_goq gj_clT ok_142 [53, 69, 84] ?_
      show gj_Do E om0 (gj_mt 146) [(.ref 0), (.int (i3 1))] SI SJ _
      refine gj_Do.mono ((h.2.2.2.2.2.1 c1).2 c12) (fun v_ SI18 SJ18 h_ => ?_)
      obtain ⟨r17, rfl, q14⟩ := h_
      show gj_Goes E om0 mt_142 84 [some (.ref 0), some (.int a1)] [(.long r17)] SI18 SJ18 (QL Q)
      refine gj_goq gj_clT ok_142 [53, 69, 84] ?_
      show QL Q (some (.long r17)) SI18 SJ18
      exact ⟨_, rfl, q14⟩
  · refine gj_goq gj_clT ok_142 [53, 69, 84] ?_
    show QL Q (some (.long (i6 (-9000000000000000000)))) SI SJ
    exact ⟨_, rfl, (h.2.2.2.2.2.2 c1)⟩
set_option maxRecDepth 20000 in
/-- GraspJudge.bearsLoad -/
theorem st_143 {E : gj_E} {Q : Int32 → gj_I → gj_J → Prop} (a1 : Int32) (SI : gj_I) (SJ : gj_J) (h : vp_in ((i3 3) * a1) 18 ∧ (vp_in (((i3 3) * a1) + (i3 1)) 18 ∧ (vp_in (((i3 3) * a1) + (i3 2)) 18 ∧ (DoI E 16 [(.ref 55), (.ref 42), (.long (SI 15 (gj_n ((i3 3) * a1))).toInt64), (.long (SI 15 (gj_n (((i3 3) * a1) + (i3 1)))).toInt64), (.long (SI 15 (gj_n (((i3 3) * a1) + (i3 2)))).toInt64)] SI SJ (fun r1 SI2 SJ2 => (r1 = 0 ∨ r1 = 1) ∧ (Q r1 SI2 SJ2)))))) : DoI E 143 [(.ref 0), (.int a1)] SI SJ Q := by
  refine gj_start (M := mt_143) ok_143 (Nat.le_of_ble_eq_true rfl) ?_
  refine gj_goq gj_clT ok_143 [51] ?_
  show vp_in ((i3 3) * a1) 18 ∧ (vp_in (((i3 3) * a1) + (i3 1)) 18 ∧ (vp_in (((i3 3) * a1) + (i3 2)) 18 ∧ (gj_Do E om0 (gj_mt 16) [(.ref 55), (.ref 42), (.long (SI 15 (gj_n ((i3 3) * a1))).toInt64), (.long (SI 15 (gj_n (((i3 3) * a1) + (i3 1)))).toInt64), (.long (SI 15 (gj_n (((i3 3) * a1) + (i3 2)))).toInt64)] SI SJ _)))
  have k1 := h.1
  refine ⟨k1, ?_⟩
  have k2 := h.2.1
  refine ⟨k2, ?_⟩
  have k3 := h.2.2.1
  refine ⟨k3, ?_⟩
  refine gj_Do.mono h.2.2.2 (fun v_ SI2 SJ2 h_ => ?_)
  obtain ⟨r1, rfl, q4⟩ := h_
  show gj_Goes E om0 mt_143 51 [some (.ref 0), some (.int a1)] [(.int r1)] SI2 SJ2 (QI Q)
  refine gj_goq gj_clT ok_143 [51] ?_
  show (r1 = 0 ∨ r1 = 1) ∧ (QI Q (some (.int r1)) SI2 SJ2)
  have k5 := q4.1
  refine ⟨k5, ?_⟩
  exact ⟨_, rfl, q4.2⟩
set_option maxRecDepth 20000 in
/-- GraspJudge.heldLoads -/
theorem st_144 {E : gj_E} {Q : Int32 → gj_I → gj_J → Prop} (SI : gj_I) (SJ : gj_J) (h : GoI E mt_144 4 [some (.ref 0), some (.int (i3 0)), some (.int (i3 0))] SI SJ Q) : DoI E 144 [(.ref 0)] SI SJ Q := by
  refine gj_start (M := mt_144) ok_144 (Nat.le_of_ble_eq_true rfl) ?_
  refine gj_goq gj_clT ok_144 [4, 20] ?_
  show gj_Goes E om0 mt_144 4 [some (.ref 0), some (.int (i3 0)), some (.int (i3 0))] [] SI SJ (QI Q)
  exact h
set_option maxRecDepth 20000 in
theorem lp_144_4 {E : gj_E} {Q : Int32 → gj_I → gj_J → Prop} (x1 : Int32) (x2 : Int32) (SI : gj_I) (SJ : gj_J) (h : ((SI 3 12) ≤ x2 → Q x1 SI SJ) ∧ (¬ (SI 3 12) ≤ x2 → DoI E 143 [(.ref 0), (.int x2)] SI SJ (fun r1 SI2 SJ2 => (r1 = 0 → GoI E mt_144 4 [some (.ref 0), some (.int x1), some (.int (x2 + (i3 1)))] SI2 SJ2 Q) ∧ (¬ r1 = 0 → GoI E mt_144 4 [some (.ref 0), some (.int (x1 ||| ((i3 1) <<< (x2 &&& 31)))), some (.int (x2 + (i3 1)))] SI2 SJ2 Q)))) : GoI E mt_144 4 [some (.ref 0), some (.int x1), some (.int x2)] SI SJ Q := by
  refine gj_goq gj_clT ok_144 [4, 20] ?_
  show ((SI 3 12) ≤ x2 → gj_Goes E om0 mt_144 35 [some (.ref 0), some (.int x1), some (.int x2)] [] SI SJ (QI Q)) ∧ (¬ (SI 3 12) ≤ x2 → gj_Do E om0 (gj_mt 143) [(.ref 0), (.int x2)] SI SJ _)
  refine ⟨fun c1 => ?_, fun c1 => ?_⟩
  · refine gj_goq gj_clT ok_144 [4, 20] ?_
    show QI Q (some (.int x1)) SI SJ
    exact ⟨_, rfl, (h.1 c1)⟩
  · refine gj_Do.mono (h.2 c1) (fun v_ SI2 SJ2 h_ => ?_)
    obtain ⟨r1, rfl, q2⟩ := h_
    show gj_Goes E om0 mt_144 20 [some (.ref 0), some (.int x1), some (.int x2)] [(.int r1)] SI2 SJ2 (QI Q)
    refine gj_goq gj_clT ok_144 [4, 20] ?_
    show (r1 = 0 → gj_Goes E om0 mt_144 29 [some (.ref 0), some (.int x1), some (.int x2)] [] SI2 SJ2 (QI Q)) ∧ (¬ r1 = 0 → gj_Goes E om0 mt_144 4 [some (.ref 0), some (.int (x1 ||| ((i3 1) <<< (x2 &&& 31)))), some (.int (x2 + (i3 1)))] [] SI2 SJ2 (QI Q))
    refine ⟨fun c3 => ?_, fun c3 => ?_⟩
    · refine gj_goq gj_clT ok_144 [4, 20] ?_
      show gj_Goes E om0 mt_144 4 [some (.ref 0), some (.int x1), some (.int (x2 + (i3 1)))] [] SI2 SJ2 (QI Q)
      exact (q2.1 c3)
    · exact (q2.2 c3)
set_option maxRecDepth 20000 in
/-- GraspJudge.greatestLoad -/
theorem st_145 {E : gj_E} {Q : Int64 → gj_I → gj_J → Prop} (a1 : Int32) (SI : gj_I) (SJ : gj_J) (h : GoL E mt_145 10 [some (.ref 0), some (.int a1), some (.long (i6 (-2))), none, some (.long (i6 1)), none, some (.int (i3 0))] SI SJ Q) : DoL E 145 [(.ref 0), (.int a1)] SI SJ Q := by
  refine gj_start (M := mt_145) ok_145 (Nat.le_of_ble_eq_true rfl) ?_
  refine gj_goq gj_clT ok_145 [10, 28, 44] ?_
  show gj_Goes E om0 mt_145 10 [some (.ref 0), some (.int a1), some (.long (i6 (-2))), none, some (.long (i6 1)), none, some (.int (i3 0))] [] SI SJ (QL Q)
  exact h
set_option maxRecDepth 20000 in
theorem lp_145_10 {E : gj_E} {Q : Int64 → gj_I → gj_J → Prop} (x1 : Int32) (x2 : Int64) (x4 : Int64) (x6 : Int32) (SI : gj_I) (SJ : gj_J) (h : ((SI 3 12) ≤ x6 → (x2 ≥ (i6 0) → (x1 = 0 → Q x4 SI SJ) ∧ (¬ x1 = 0 → Q x2 SI SJ)) ∧ (¬ x2 ≥ (i6 0) → Q (i6 (-2)) SI SJ)) ∧ (¬ (SI 3 12) ≤ x6 → DoI E 143 [(.ref 0), (.int x6)] SI SJ (fun r1 SI2 SJ2 => (r1 = 0 → GoL E mt_145 10 [some (.ref 0), some (.int x1), some (.long x2), none, some (.long x4), none, some (.int (x6 + (i3 1)))] SI2 SJ2 Q) ∧ (¬ r1 = 0 → DoI E 15 [(.ref 56), (.long x2), (.long x4)] SI2 SJ2 (fun r3 SI4 SJ4 => (r3 = 0 → GoL E mt_145 10 [some (.ref 0), some (.int x1), some (.long x2), none, some (.long x4), none, some (.int (x6 + (i3 1)))] SI4 SJ4 Q) ∧ (¬ r3 = 0 → GoL E mt_145 10 [some (.ref 0), some (.int x1), some (.long (SJ4 56 0)), none, some (.long (SJ4 56 1)), none, some (.int (x6 + (i3 1)))] SI4 SJ4 Q)))))) : GoL E mt_145 10 [some (.ref 0), some (.int x1), some (.long x2), none, some (.long x4), none, some (.int x6)] SI SJ Q := by
  refine gj_goq gj_clT ok_145 [10, 28, 44] ?_
  show ((SI 3 12) ≤ x6 → gj_Goes E om0 mt_145 76 [some (.ref 0), some (.int x1), some (.long x2), none, some (.long x4), none, some (.int x6)] [] SI SJ (QL Q)) ∧ (¬ (SI 3 12) ≤ x6 → gj_Do E om0 (gj_mt 143) [(.ref 0), (.int x6)] SI SJ _)
  refine ⟨fun c1 => ?_, fun c1 => ?_⟩
  · refine gj_goq gj_clT ok_145 [10, 28, 44] ?_
    show (0 ≤ (lg_cmp x2 (i6 0)) → gj_Goes E om0 mt_145 86 [some (.ref 0), some (.int x1), some (.long x2), none, some (.long x4), none, some (.int x6)] [] SI SJ (QL Q)) ∧ (¬ 0 ≤ (lg_cmp x2 (i6 0)) → QL Q (some (.long (i6 (-2)))) SI SJ)
    refine ⟨fun c2 => ?_, fun c2 => ?_⟩
    · refine gj_goq gj_clT ok_145 [10, 28, 44] ?_
      show (x1 = 0 → gj_Goes E om0 mt_145 94 [some (.ref 0), some (.int x1), some (.long x2), none, some (.long x4), none, some (.int x6)] [] SI SJ (QL Q)) ∧ (¬ x1 = 0 → gj_Goes E om0 mt_145 96 [some (.ref 0), some (.int x1), some (.long x2), none, some (.long x4), none, some (.int x6)] [(.long x2)] SI SJ (QL Q))
      refine ⟨fun c3 => ?_, fun c3 => ?_⟩
      · refine gj_goq gj_clT ok_145 [10, 28, 44] ?_
        show QL Q (some (.long x4)) SI SJ
        exact ⟨_, rfl, (((h.1 c1).1 (lgc_ge.mp c2)).1 c3)⟩
      · refine gj_goq gj_clT ok_145 [10, 28, 44] ?_
        show QL Q (some (.long x2)) SI SJ
        exact ⟨_, rfl, (((h.1 c1).1 (lgc_ge.mp c2)).2 c3)⟩
    · exact ⟨_, rfl, ((h.1 c1).2 (fun z_ => c2 (lgc_ge.mpr z_)))⟩
  · refine gj_Do.mono (h.2 c1) (fun v_ SI2 SJ2 h_ => ?_)
    obtain ⟨r1, rfl, q4⟩ := h_
    show gj_Goes E om0 mt_145 28 [some (.ref 0), some (.int x1), some (.long x2), none, some (.long x4), none, some (.int x6)] [(.int r1)] SI2 SJ2 (QL Q)
    refine gj_goq gj_clT ok_145 [10, 28, 44] ?_
    show (r1 = 0 → gj_Goes E om0 mt_145 70 [some (.ref 0), some (.int x1), some (.long x2), none, some (.long x4), none, some (.int x6)] [] SI2 SJ2 (QL Q)) ∧ (¬ r1 = 0 → gj_Do E om0 (gj_mt 15) [(.ref 56), (.long x2), (.long x4)] SI2 SJ2 _)
    refine ⟨fun c5 => ?_, fun c5 => ?_⟩
    · refine gj_goq gj_clT ok_145 [10, 28, 44] ?_
      show gj_Goes E om0 mt_145 10 [some (.ref 0), some (.int x1), some (.long x2), none, some (.long x4), none, some (.int (x6 + (i3 1)))] [] SI2 SJ2 (QL Q)
      exact (q4.1 c5)
    · refine gj_Do.mono (q4.2 c5) (fun v_ SI4 SJ4 h_ => ?_)
      obtain ⟨r3, rfl, q6⟩ := h_
      show gj_Goes E om0 mt_145 44 [some (.ref 0), some (.int x1), some (.long x2), none, some (.long x4), none, some (.int x6)] [(.int r3)] SI4 SJ4 (QL Q)
      refine gj_goq gj_clT ok_145 [10, 28, 44] ?_
      show (r3 = 0 → gj_Goes E om0 mt_145 70 [some (.ref 0), some (.int x1), some (.long x2), none, some (.long x4), none, some (.int x6)] [] SI4 SJ4 (QL Q)) ∧ (¬ r3 = 0 → gj_Goes E om0 mt_145 10 [some (.ref 0), some (.int x1), some (.long (SJ4 56 0)), none, some (.long (SJ4 56 1)), none, some (.int (x6 + (i3 1)))] [] SI4 SJ4 (QL Q))
      refine ⟨fun c7 => ?_, fun c7 => ?_⟩
      · refine gj_goq gj_clT ok_145 [10, 28, 44] ?_
        show gj_Goes E om0 mt_145 10 [some (.ref 0), some (.int x1), some (.long x2), none, some (.long x4), none, some (.int (x6 + (i3 1)))] [] SI4 SJ4 (QL Q)
        exact (q6.1 c7)
      · exact (q6.2 c7)
set_option maxRecDepth 20000 in
/-- GraspJudge.allLoads -/
theorem st_146 {E : gj_E} {Q : Int64 → gj_I → gj_J → Prop} (a1 : Int32) (SI : gj_I) (SJ : gj_J) (h : GoL E mt_146 11 [some (.ref 0), some (.int a1), some (.long (i6 0)), none, some (.long (i6 0)), none, some (.long (i6 0)), none, some (.int (i3 0))] SI SJ Q) : DoL E 146 [(.ref 0), (.int a1)] SI SJ Q := by
  refine gj_start (M := mt_146) ok_146 (Nat.le_of_ble_eq_true rfl) ?_
  refine gj_goq gj_clT ok_146 [11, 101] ?_
  show gj_Goes E om0 mt_146 11 [some (.ref 0), some (.int a1), some (.long (i6 0)), none, some (.long (i6 0)), none, some (.long (i6 0)), none, some (.int (i3 0))] [] SI SJ (QL Q)
  exact h
set_option maxRecDepth 20000 in
theorem lp_146_11 {E : gj_E} {Q : Int64 → gj_I → gj_J → Prop} (x1 : Int32) (x2 : Int64) (x4 : Int64) (x6 : Int64) (x8 : Int32) (SI : gj_I) (SJ : gj_J) (h : ((SI 3 12) ≤ x8 → DoI E 16 [(.ref 55), (.ref 42), (.long x2), (.long x4), (.long x6)] SI SJ (fun r1 SI2 SJ2 => (¬ r1 = 0 → (x1 = 0 → Q (SJ2 56 1) SI2 SJ2) ∧ (¬ x1 = 0 → Q (SJ2 56 0) SI2 SJ2)) ∧ (r1 = 0 → Q (i6 (-2)) SI2 SJ2))) ∧ (¬ (SI 3 12) ≤ x8 → vp_in ((i3 3) * x8) 18 ∧ (vp_in (((i3 3) * x8) + (i3 1)) 18 ∧ (vp_in (((i3 3) * x8) + (i3 2)) 18 ∧ (GoL E mt_146 11 [some (.ref 0), some (.int x1), some (.long (x2 + (SI 15 (gj_n ((i3 3) * x8))).toInt64)), none, some (.long (x4 + (SI 15 (gj_n (((i3 3) * x8) + (i3 1)))).toInt64)), none, some (.long (x6 + (SI 15 (gj_n (((i3 3) * x8) + (i3 2)))).toInt64)), none, some (.int (x8 + (i3 1)))] SI SJ Q))))) : GoL E mt_146 11 [some (.ref 0), some (.int x1), some (.long x2), none, some (.long x4), none, some (.long x6), none, some (.int x8)] SI SJ Q := by
  refine gj_goq gj_clT ok_146 [11, 101] ?_
  show ((SI 3 12) ≤ x8 → gj_Goes E om0 mt_146 85 [some (.ref 0), some (.int x1), some (.long x2), none, some (.long x4), none, some (.long x6), none, some (.int x8)] [] SI SJ (QL Q)) ∧ (¬ (SI 3 12) ≤ x8 → vp_in ((i3 3) * x8) 18 ∧ (vp_in (((i3 3) * x8) + (i3 1)) 18 ∧ (vp_in (((i3 3) * x8) + (i3 2)) 18 ∧ (gj_Goes E om0 mt_146 11 [some (.ref 0), some (.int x1), some (.long (x2 + (SI 15 (gj_n ((i3 3) * x8))).toInt64)), none, some (.long (x4 + (SI 15 (gj_n (((i3 3) * x8) + (i3 1)))).toInt64)), none, some (.long (x6 + (SI 15 (gj_n (((i3 3) * x8) + (i3 2)))).toInt64)), none, some (.int (x8 + (i3 1)))] [] SI SJ (QL Q)))))
  refine ⟨fun c1 => ?_, fun c1 => ?_⟩
  · refine gj_goq gj_clT ok_146 [11, 101] ?_
    show gj_Do E om0 (gj_mt 16) [(.ref 55), (.ref 42), (.long x2), (.long x4), (.long x6)] SI SJ _
    refine gj_Do.mono (h.1 c1) (fun v_ SI2 SJ2 h_ => ?_)
    obtain ⟨r1, rfl, q2⟩ := h_
    show gj_Goes E om0 mt_146 101 [some (.ref 0), some (.int x1), some (.long x2), none, some (.long x4), none, some (.long x6), none, some (.int x8)] [(.int r1)] SI2 SJ2 (QL Q)
    refine gj_goq gj_clT ok_146 [11, 101] ?_
    show (¬ r1 = 0 → gj_Goes E om0 mt_146 108 [some (.ref 0), some (.int x1), some (.long x2), none, some (.long x4), none, some (.long x6), none, some (.int x8)] [] SI2 SJ2 (QL Q)) ∧ (r1 = 0 → QL Q (some (.long (i6 (-2)))) SI2 SJ2)
    refine ⟨fun c3 => ?_, fun c3 => ?_⟩
    · refine gj_goq gj_clT ok_146 [11, 101] ?_
      show (x1 = 0 → gj_Goes E om0 mt_146 125 [some (.ref 0), some (.int x1), some (.long x2), none, some (.long x4), none, some (.long x6), none, some (.int x8)] [] SI2 SJ2 (QL Q)) ∧ (¬ x1 = 0 → gj_Goes E om0 mt_146 135 [some (.ref 0), some (.int x1), some (.long x2), none, some (.long x4), none, some (.long x6), none, some (.int x8)] [(.long (SJ2 56 0))] SI2 SJ2 (QL Q))
      refine ⟨fun c4 => ?_, fun c4 => ?_⟩
      · refine gj_goq gj_clT ok_146 [11, 101] ?_
        show QL Q (some (.long (SJ2 56 1))) SI2 SJ2
        exact ⟨_, rfl, ((q2.1 c3).1 c4)⟩
      · refine gj_goq gj_clT ok_146 [11, 101] ?_
        show QL Q (some (.long (SJ2 56 0))) SI2 SJ2
        exact ⟨_, rfl, ((q2.1 c3).2 c4)⟩
    · exact ⟨_, rfl, (q2.2 c3)⟩
  · have k5 := (h.2 c1).1
    refine ⟨k5, ?_⟩
    have k6 := (h.2 c1).2.1
    refine ⟨k6, ?_⟩
    have k7 := (h.2 c1).2.2.1
    refine ⟨k7, ?_⟩
    exact (h.2 c1).2.2.2
set_option maxRecDepth 20000 in
/-- GraspJudge.weight -/
theorem st_147 {E : gj_E} {Q : Int64 → gj_I → gj_J → Prop} (a1 : Int32) (a2 : Int32) (a3 : Int32) (SI : gj_I) (SJ : gj_J) (h : ((i3 9) < (if a1 < a2 then a2 else a1) → Q (i6 (-9000000000000000000)) SI SJ) ∧ (¬ (i3 9) < (if a1 < a2 then a2 else a1) → ((if a2 < a1 then a2 else a1) < (i3 (-9)) → Q (i6 (-9000000000000000000)) SI SJ) ∧ (¬ (if a2 < a1 then a2 else a1) < (i3 (-9)) → (a3 < 0 → Q (i6 (-9000000000000000000)) SI SJ) ∧ (¬ a3 < 0 → (a3 ≤ (i3 1) → DoI E 148 [(.ref 0), (.int a1), (.int a2)] SI SJ (fun r1 SI2 SJ2 => (¬ r1 = 0 → (¬ a3 = 0 → Q (SJ2 56 1) SI2 SJ2) ∧ (a3 = 0 → Q (SJ2 56 0) SI2 SJ2)) ∧ (r1 = 0 → Q (i6 (-9000000000000000000)) SI2 SJ2))) ∧ (¬ a3 ≤ (i3 1) → Q (i6 (-9000000000000000000)) SI SJ))))) : DoL E 147 [(.ref 0), (.int a1), (.int a2), (.int a3)] SI SJ Q := by
  refine gj_start (M := mt_147) ok_147 (Nat.le_of_ble_eq_true rfl) ?_
  refine gj_goq gj_clT ok_147 [39] ?_
  show ((i3 9) < (if a1 < a2 then a2 else a1) → gj_Goes E om0 mt_147 29 [some (.ref 0), some (.int a1), some (.int a2), some (.int a3)] [] SI SJ (QL Q)) ∧ (¬ (i3 9) < (if a1 < a2 then a2 else a1) → ((if a2 < a1 then a2 else a1) < (i3 (-9)) → gj_Goes E om0 mt_147 29 [some (.ref 0), some (.int a1), some (.int a2), some (.int a3)] [] SI SJ (QL Q)) ∧ (¬ (if a2 < a1 then a2 else a1) < (i3 (-9)) → (a3 < 0 → gj_Goes E om0 mt_147 29 [some (.ref 0), some (.int a1), some (.int a2), some (.int a3)] [] SI SJ (QL Q)) ∧ (¬ a3 < 0 → (a3 ≤ (i3 1) → gj_Goes E om0 mt_147 33 [some (.ref 0), some (.int a1), some (.int a2), some (.int a3)] [] SI SJ (QL Q)) ∧ (¬ a3 ≤ (i3 1) → QL Q (some (.long (i6 (-9000000000000000000)))) SI SJ))))
  refine ⟨fun c1 => ?_, fun c1 => ?_⟩
  · refine gj_goq gj_clT ok_147 [39] ?_
    show QL Q (some (.long (i6 (-9000000000000000000)))) SI SJ
    exact ⟨_, rfl, (h.1 c1)⟩
  · refine ⟨fun c2 => ?_, fun c2 => ?_⟩
    · refine gj_goq gj_clT ok_147 [39] ?_
      show QL Q (some (.long (i6 (-9000000000000000000)))) SI SJ
      exact ⟨_, rfl, ((h.2 c1).1 c2)⟩
    · refine ⟨fun c3 => ?_, fun c3 => ?_⟩
      · refine gj_goq gj_clT ok_147 [39] ?_
        show QL Q (some (.long (i6 (-9000000000000000000)))) SI SJ
        exact ⟨_, rfl, (((h.2 c1).2 c2).1 c3)⟩
      · refine ⟨fun c4 => ?_, fun c4 => ?_⟩
        · refine gj_goq gj_clT ok_147 [39] ?_
          show gj_Do E om0 (gj_mt 148) [(.ref 0), (.int a1), (.int a2)] SI SJ _
          refine gj_Do.mono ((((h.2 c1).2 c2).2 c3).1 c4) (fun v_ SI2 SJ2 h_ => ?_)
          obtain ⟨r1, rfl, q5⟩ := h_
          show gj_Goes E om0 mt_147 39 [some (.ref 0), some (.int a1), some (.int a2), some (.int a3)] [(.int r1)] SI2 SJ2 (QL Q)
          refine gj_goq gj_clT ok_147 [39] ?_
          show (¬ r1 = 0 → gj_Goes E om0 mt_147 46 [some (.ref 0), some (.int a1), some (.int a2), some (.int a3)] [] SI2 SJ2 (QL Q)) ∧ (r1 = 0 → QL Q (some (.long (i6 (-9000000000000000000)))) SI2 SJ2)
          refine ⟨fun c6 => ?_, fun c6 => ?_⟩
          · refine gj_goq gj_clT ok_147 [39] ?_
            show (¬ a3 = 0 → gj_Goes E om0 mt_147 63 [some (.ref 0), some (.int a1), some (.int a2), some (.int a3)] [] SI2 SJ2 (QL Q)) ∧ (a3 = 0 → gj_Goes E om0 mt_147 73 [some (.ref 0), some (.int a1), some (.int a2), some (.int a3)] [(.long (SJ2 56 0))] SI2 SJ2 (QL Q))
            refine ⟨fun c7 => ?_, fun c7 => ?_⟩
            · refine gj_goq gj_clT ok_147 [39] ?_
              show QL Q (some (.long (SJ2 56 1))) SI2 SJ2
              exact ⟨_, rfl, ((q5.1 c6).1 c7)⟩
            · refine gj_goq gj_clT ok_147 [39] ?_
              show QL Q (some (.long (SJ2 56 0))) SI2 SJ2
              exact ⟨_, rfl, ((q5.1 c6).2 c7)⟩
          · exact ⟨_, rfl, (q5.2 c6)⟩
        · exact ⟨_, rfl, ((((h.2 c1).2 c2).2 c3).2 c4)⟩
set_option maxRecDepth 20000 in
/-- GraspJudge.bearsWeight -/
theorem st_148 {E : gj_E} {Q : Int32 → gj_I → gj_J → Prop} (a1 : Int32) (a2 : Int32) (SI : gj_I) (SJ : gj_J) (h : DoI E 41 [(.ref 4)] SI SJ (fun r1 SI2 SJ2 => DoL E 42 [(.ref 4), (.int (i3 1))] SI2 SJ2 (fun r3 SI4 SJ4 => DoL E 42 [(.ref 4), (.int (i3 0))] SI4 SJ4 (fun r5 SI6 SJ6 => DoI E 16 [(.ref 55), (.ref 42), (.long ((a1).toInt64 * ((i6 3) * (r1).toInt64))), (.long ((a2).toInt64 * ((i6 3) * (r1).toInt64))), (.long (((r3 - (((i6 3) * (r1).toInt64) * (SI4 3 8).toInt64)) * (a2).toInt64) - ((r5 - (((i6 3) * (r1).toInt64) * (SI6 3 9).toInt64)) * (a1).toInt64)))] SI6 SJ6 (fun r7 SI8 SJ8 => (¬ r7 = 0 → DoV E 14 [(.ref 56), (.long (SJ8 56 0)), (.long ((SJ8 56 1) * ((i6 3) * (r1).toInt64)))] SI8 SJ8 (fun SI10 SJ10 => Q (i3 1) SI10 SJ10)) ∧ (r7 = 0 → Q (i3 0) SI8 SJ8)))))) : DoI E 148 [(.ref 0), (.int a1), (.int a2)] SI SJ Q := by
  refine gj_start (M := mt_148) ok_148 (Nat.le_of_ble_eq_true rfl) ?_
  refine gj_goq gj_clT ok_148 [13, 27, 51, 94, 131] ?_
  show gj_Do E om0 (gj_mt 41) [(.ref 4)] SI SJ _
  refine gj_Do.mono h (fun v_ SI2 SJ2 h_ => ?_)
  obtain ⟨r1, rfl, q1⟩ := h_
  show gj_Goes E om0 mt_148 13 [some (.ref 0), some (.int a1), some (.int a2), none, none, none, none, none, none] [(.int r1), (.long (i6 3))] SI2 SJ2 (QI Q)
  refine gj_goq gj_clT ok_148 [13, 27, 51, 94, 131] ?_
  show gj_Do E om0 (gj_mt 42) [(.ref 4), (.int (i3 1))] SI2 SJ2 _
  refine gj_Do.mono q1 (fun v_ SI4 SJ4 h_ => ?_)
  obtain ⟨r3, rfl, q2⟩ := h_
  show gj_Goes E om0 mt_148 27 [some (.ref 0), some (.int a1), some (.int a2), some (.long ((i6 3) * (r1).toInt64)), none, none, none, none, none] [(.long r3)] SI4 SJ4 (QI Q)
  refine gj_goq gj_clT ok_148 [13, 27, 51, 94, 131] ?_
  show gj_Do E om0 (gj_mt 42) [(.ref 4), (.int (i3 0))] SI4 SJ4 _
  refine gj_Do.mono q2 (fun v_ SI6 SJ6 h_ => ?_)
  obtain ⟨r5, rfl, q3⟩ := h_
  show gj_Goes E om0 mt_148 51 [some (.ref 0), some (.int a1), some (.int a2), some (.long ((i6 3) * (r1).toInt64)), none, some (.long (r3 - (((i6 3) * (r1).toInt64) * (SI4 3 8).toInt64))), none, none, none] [(.long r5)] SI6 SJ6 (QI Q)
  refine gj_goq gj_clT ok_148 [13, 27, 51, 94, 131] ?_
  show gj_Do E om0 (gj_mt 16) [(.ref 55), (.ref 42), (.long ((a1).toInt64 * ((i6 3) * (r1).toInt64))), (.long ((a2).toInt64 * ((i6 3) * (r1).toInt64))), (.long (((r3 - (((i6 3) * (r1).toInt64) * (SI4 3 8).toInt64)) * (a2).toInt64) - ((r5 - (((i6 3) * (r1).toInt64) * (SI6 3 9).toInt64)) * (a1).toInt64)))] SI6 SJ6 _
  refine gj_Do.mono q3 (fun v_ SI8 SJ8 h_ => ?_)
  obtain ⟨r7, rfl, q4⟩ := h_
  show gj_Goes E om0 mt_148 94 [some (.ref 0), some (.int a1), some (.int a2), some (.long ((i6 3) * (r1).toInt64)), none, some (.long (r3 - (((i6 3) * (r1).toInt64) * (SI4 3 8).toInt64))), none, some (.long (r5 - (((i6 3) * (r1).toInt64) * (SI6 3 9).toInt64))), none] [(.int r7)] SI8 SJ8 (QI Q)
  refine gj_goq gj_clT ok_148 [13, 27, 51, 94, 131] ?_
  show (¬ r7 = 0 → gj_Goes E om0 mt_148 99 [some (.ref 0), some (.int a1), some (.int a2), some (.long ((i6 3) * (r1).toInt64)), none, some (.long (r3 - (((i6 3) * (r1).toInt64) * (SI4 3 8).toInt64))), none, some (.long (r5 - (((i6 3) * (r1).toInt64) * (SI6 3 9).toInt64))), none] [] SI8 SJ8 (QI Q)) ∧ (r7 = 0 → ((i3 0) = 0 ∨ (i3 0) = 1) ∧ (QI Q (some (.int (i3 0))) SI8 SJ8))
  refine ⟨fun c5 => ?_, fun c5 => ?_⟩
  · refine gj_goq gj_clT ok_148 [13, 27, 51, 94, 131] ?_
    show gj_Do E om0 (gj_mt 14) [(.ref 56), (.long (SJ8 56 0)), (.long ((SJ8 56 1) * ((i6 3) * (r1).toInt64)))] SI8 SJ8 _
    refine gj_Do.mono (q4.1 c5) (fun v_ SI10 SJ10 h_ => ?_)
    obtain ⟨rfl, q6⟩ := h_
    show gj_Goes E om0 mt_148 131 [some (.ref 0), some (.int a1), some (.int a2), some (.long ((i6 3) * (r1).toInt64)), none, some (.long (r3 - (((i6 3) * (r1).toInt64) * (SI4 3 8).toInt64))), none, some (.long (r5 - (((i6 3) * (r1).toInt64) * (SI6 3 9).toInt64))), none] [] SI10 SJ10 (QI Q)
    refine gj_goq gj_clT ok_148 [13, 27, 51, 94, 131] ?_
    show ((i3 1) = 0 ∨ (i3 1) = 1) ∧ (QI Q (some (.int (i3 1))) SI10 SJ10)
    refine ⟨(Or.inr rfl), ?_⟩
    exact ⟨_, rfl, q6⟩
  · refine ⟨(Or.inl rfl), ?_⟩
    exact ⟨_, rfl, (q4.2 c5)⟩
set_option maxRecDepth 20000 in
/-- GraspJudge.tilt -/
theorem st_149 {E : gj_E} {Q : Int32 → gj_I → gj_J → Prop} (a1 : Int32) (SI : gj_I) (SJ : gj_J) (h : (a1 < 0 → Q (i3 (-1)) SI SJ) ∧ (¬ a1 < 0 → (a1 ≤ (i3 10000) → GoI E mt_149 17 [some (.ref 0), some (.int a1), some (.int (i3 0)), some (.int (i3 0))] SI SJ Q) ∧ (¬ a1 ≤ (i3 10000) → Q (i3 (-1)) SI SJ))) : DoI E 149 [(.ref 0), (.int a1)] SI SJ Q := by
  refine gj_start (M := mt_149) ok_149 (Nat.le_of_ble_eq_true rfl) ?_
  refine gj_goq gj_clT ok_149 [17, 47, 63] ?_
  show (a1 < 0 → gj_Goes E om0 mt_149 11 [some (.ref 0), some (.int a1), none, none] [] SI SJ (QI Q)) ∧ (¬ a1 < 0 → (a1 ≤ (i3 10000) → gj_Goes E om0 mt_149 13 [some (.ref 0), some (.int a1), none, none] [] SI SJ (QI Q)) ∧ (¬ a1 ≤ (i3 10000) → QI Q (some (.int (i3 (-1)))) SI SJ))
  refine ⟨fun c1 => ?_, fun c1 => ?_⟩
  · refine gj_goq gj_clT ok_149 [17, 47, 63] ?_
    show QI Q (some (.int (i3 (-1)))) SI SJ
    exact ⟨_, rfl, (h.1 c1)⟩
  · refine ⟨fun c2 => ?_, fun c2 => ?_⟩
    · refine gj_goq gj_clT ok_149 [17, 47, 63] ?_
      show gj_Goes E om0 mt_149 17 [some (.ref 0), some (.int a1), some (.int (i3 0)), some (.int (i3 0))] [] SI SJ (QI Q)
      exact ((h.2 c1).1 c2)
    · exact ⟨_, rfl, ((h.2 c1).2 c2)⟩
set_option maxRecDepth 20000 in
theorem lp_149_17 {E : gj_E} {Q : Int32 → gj_I → gj_J → Prop} (x1 : Int32) (x2 : Int32) (x3 : Int32) (SI : gj_I) (SJ : gj_J) (h : ((i3 8) ≤ x3 → Q x2 SI SJ) ∧ (¬ (i3 8) ≤ x3 → ((i3 8) ≤ x3 → Q x2 SI SJ) ∧ (¬ (i3 8) ≤ x3 → vp_in x3 8 ∧ (DoI E 148 [(.ref 0), (.int (gj_stf E 2 (gj_n x3))), (.int (gj_stf E 3 (gj_n x3)))] SI SJ (fun r1 SI2 SJ2 => (r1 = 0 → GoI E mt_149 17 [some (.ref 0), some (.int x1), some (.int x2), some (.int (x3 + (i3 1)))] SI2 SJ2 Q) ∧ (¬ r1 = 0 → DoI E 15 [(.ref 56), (.long (x1).toInt64), (.long (i6 1))] SI2 SJ2 (fun r3 SI4 SJ4 => (¬ r3 = 0 → GoI E mt_149 17 [some (.ref 0), some (.int x1), some (.int x2), some (.int (x3 + (i3 1)))] SI4 SJ4 Q) ∧ (r3 = 0 → GoI E mt_149 17 [some (.ref 0), some (.int x1), some (.int (x2 ||| ((i3 1) <<< (x3 &&& 31)))), some (.int (x3 + (i3 1)))] SI4 SJ4 Q)))))))) : GoI E mt_149 17 [some (.ref 0), some (.int x1), some (.int x2), some (.int x3)] SI SJ Q := by
  refine gj_goq gj_clT ok_149 [17, 47, 63] ?_
  show ((i3 8) ≤ x3 → gj_Goes E om0 mt_149 78 [some (.ref 0), some (.int x1), some (.int x2), some (.int x3)] [] SI SJ (QI Q)) ∧ (¬ (i3 8) ≤ x3 → ((i3 8) ≤ x3 → gj_Goes E om0 mt_149 78 [some (.ref 0), some (.int x1), some (.int x2), some (.int x3)] [] SI SJ (QI Q)) ∧ (¬ (i3 8) ≤ x3 → vp_in x3 8 ∧ (vp_in x3 8 ∧ (gj_Do E om0 (gj_mt 148) [(.ref 0), (.int (gj_stf E 2 (gj_n x3))), (.int (gj_stf E 3 (gj_n x3)))] SI SJ _))))
  refine ⟨fun c1 => ?_, fun c1 => ?_⟩
  · refine gj_goq gj_clT ok_149 [17, 47, 63] ?_
    show QI Q (some (.int x2)) SI SJ
    exact ⟨_, rfl, (h.1 c1)⟩
  · refine ⟨fun c2 => ?_, fun c2 => ?_⟩
    · refine gj_goq gj_clT ok_149 [17, 47, 63] ?_
      show QI Q (some (.int x2)) SI SJ
      exact ⟨_, rfl, ((h.2 c1).1 c2)⟩
    · have k3 := ((h.2 c1).2 c2).1
      refine ⟨k3, ?_⟩
      refine ⟨k3, ?_⟩
      refine gj_Do.mono ((h.2 c1).2 c2).2 (fun v_ SI2 SJ2 h_ => ?_)
      obtain ⟨r1, rfl, q4⟩ := h_
      show gj_Goes E om0 mt_149 47 [some (.ref 0), some (.int x1), some (.int x2), some (.int x3)] [(.int r1)] SI2 SJ2 (QI Q)
      refine gj_goq gj_clT ok_149 [17, 47, 63] ?_
      show (r1 = 0 → gj_Goes E om0 mt_149 72 [some (.ref 0), some (.int x1), some (.int x2), some (.int x3)] [] SI2 SJ2 (QI Q)) ∧ (¬ r1 = 0 → gj_Do E om0 (gj_mt 15) [(.ref 56), (.long (x1).toInt64), (.long (i6 1))] SI2 SJ2 _)
      refine ⟨fun c5 => ?_, fun c5 => ?_⟩
      · refine gj_goq gj_clT ok_149 [17, 47, 63] ?_
        show gj_Goes E om0 mt_149 17 [some (.ref 0), some (.int x1), some (.int x2), some (.int (x3 + (i3 1)))] [] SI2 SJ2 (QI Q)
        exact (q4.1 c5)
      · refine gj_Do.mono (q4.2 c5) (fun v_ SI4 SJ4 h_ => ?_)
        obtain ⟨r3, rfl, q6⟩ := h_
        show gj_Goes E om0 mt_149 63 [some (.ref 0), some (.int x1), some (.int x2), some (.int x3)] [(.int r3)] SI4 SJ4 (QI Q)
        refine gj_goq gj_clT ok_149 [17, 47, 63] ?_
        show (¬ r3 = 0 → gj_Goes E om0 mt_149 72 [some (.ref 0), some (.int x1), some (.int x2), some (.int x3)] [] SI4 SJ4 (QI Q)) ∧ (r3 = 0 → gj_Goes E om0 mt_149 17 [some (.ref 0), some (.int x1), some (.int (x2 ||| ((i3 1) <<< (x3 &&& 31)))), some (.int (x3 + (i3 1)))] [] SI4 SJ4 (QI Q))
        refine ⟨fun c7 => ?_, fun c7 => ?_⟩
        · refine gj_goq gj_clT ok_149 [17, 47, 63] ?_
          show gj_Goes E om0 mt_149 17 [some (.ref 0), some (.int x1), some (.int x2), some (.int (x3 + (i3 1)))] [] SI4 SJ4 (QI Q)
          exact (q6.1 c7)
        · exact (q6.2 c7)
set_option maxRecDepth 20000 in
/-- GraspJudge.storm -/
theorem st_150 {E : gj_E} {Q : Int32 → gj_I → gj_J → Prop} (a1 : Int32) (a2 : Int32) (SI : gj_I) (SJ : gj_J) (h : (a1 < (i3 1) → Q (i3 (-1)) SI SJ) ∧ (¬ a1 < (i3 1) → ((i3 60) < a1 → Q (i3 (-1)) SI SJ) ∧ (¬ (i3 60) < a1 → (a2 < 0 → Q (i3 (-1)) SI SJ) ∧ (¬ a2 < 0 → (a2 ≤ (i3 10000) → GoI E mt_150 38 [some (.ref 0), some (.int a1), some (.int a2), some (.int (i3 0)), some (.int (SI 3 10)), some (.int (i3 0)), none, none, none] SI SJ Q) ∧ (¬ a2 ≤ (i3 10000) → Q (i3 (-1)) SI SJ))))) : DoI E 150 [(.ref 0), (.int a1), (.int a2)] SI SJ Q := by
  refine gj_start (M := mt_150) ok_150 (Nat.le_of_ble_eq_true rfl) ?_
  refine gj_goq gj_clT ok_150 [38, 49, 66, 83, 115, 131] ?_
  show (a1 < (i3 1) → gj_Goes E om0 mt_150 22 [some (.ref 0), some (.int a1), some (.int a2), none, none, none, none, none, none] [] SI SJ (QI Q)) ∧ (¬ a1 < (i3 1) → ((i3 60) < a1 → gj_Goes E om0 mt_150 22 [some (.ref 0), some (.int a1), some (.int a2), none, none, none, none, none, none] [] SI SJ (QI Q)) ∧ (¬ (i3 60) < a1 → (a2 < 0 → gj_Goes E om0 mt_150 22 [some (.ref 0), some (.int a1), some (.int a2), none, none, none, none, none, none] [] SI SJ (QI Q)) ∧ (¬ a2 < 0 → (a2 ≤ (i3 10000) → gj_Goes E om0 mt_150 24 [some (.ref 0), some (.int a1), some (.int a2), none, none, none, none, none, none] [] SI SJ (QI Q)) ∧ (¬ a2 ≤ (i3 10000) → QI Q (some (.int (i3 (-1)))) SI SJ))))
  refine ⟨fun c1 => ?_, fun c1 => ?_⟩
  · refine gj_goq gj_clT ok_150 [38, 49, 66, 83, 115, 131] ?_
    show QI Q (some (.int (i3 (-1)))) SI SJ
    exact ⟨_, rfl, (h.1 c1)⟩
  · refine ⟨fun c2 => ?_, fun c2 => ?_⟩
    · refine gj_goq gj_clT ok_150 [38, 49, 66, 83, 115, 131] ?_
      show QI Q (some (.int (i3 (-1)))) SI SJ
      exact ⟨_, rfl, ((h.2 c1).1 c2)⟩
    · refine ⟨fun c3 => ?_, fun c3 => ?_⟩
      · refine gj_goq gj_clT ok_150 [38, 49, 66, 83, 115, 131] ?_
        show QI Q (some (.int (i3 (-1)))) SI SJ
        exact ⟨_, rfl, (((h.2 c1).2 c2).1 c3)⟩
      · refine ⟨fun c4 => ?_, fun c4 => ?_⟩
        · refine gj_goq gj_clT ok_150 [38, 49, 66, 83, 115, 131] ?_
          show gj_Goes E om0 mt_150 38 [some (.ref 0), some (.int a1), some (.int a2), some (.int (i3 0)), some (.int (SI 3 10)), some (.int (i3 0)), none, none, none] [] SI SJ (QI Q)
          exact ((((h.2 c1).2 c2).2 c3).1 c4)
        · exact ⟨_, rfl, ((((h.2 c1).2 c2).2 c3).2 c4)⟩
set_option maxRecDepth 20000 in
theorem lp_150_38 {E : gj_E} {Q : Int32 → gj_I → gj_J → Prop} (x1 : Int32) (x2 : Int32) (x3 : Int32) (x4 : Int32) (x5 : Int32) (SI : gj_I) (SJ : gj_J) (h : (x1 ≤ x5 → Q x3 SI SJ) ∧ (¬ x1 ≤ x5 → DoI E 151 [(.int x4)] SI SJ (fun r1 SI2 SJ2 => DoI E 151 [(.int r1)] SI2 SJ2 (fun r3 SI4 SJ4 => DoI E 151 [(.int r3)] SI4 SJ4 (fun r5 SI6 SJ6 => DoI E 16 [(.ref 55), (.ref 42), (.long ((r1 - r1 / (i3 21) * (i3 21)) - (i3 10)).toInt64), (.long ((r3 - r3 / (i3 21) * (i3 21)) - (i3 10)).toInt64), (.long ((r5 - r5 / (i3 101) * (i3 101)) - (i3 50)).toInt64)] SI6 SJ6 (fun r7 SI8 SJ8 => (r7 = 0 → GoI E mt_150 38 [some (.ref 0), some (.int x1), some (.int x2), some (.int x3), some (.int r5), some (.int (x5 + (i3 1))), none, none, none] SI8 SJ8 Q) ∧ (¬ r7 = 0 → DoI E 15 [(.ref 56), (.long (x2).toInt64), (.long (i6 1))] SI8 SJ8 (fun r9 SI10 SJ10 => (¬ r9 = 0 → GoI E mt_150 38 [some (.ref 0), some (.int x1), some (.int x2), some (.int x3), some (.int r5), some (.int (x5 + (i3 1))), none, none, none] SI10 SJ10 Q) ∧ (r9 = 0 → GoI E mt_150 38 [some (.ref 0), some (.int x1), some (.int x2), some (.int (x3 + (i3 1))), some (.int r5), some (.int (x5 + (i3 1))), none, none, none] SI10 SJ10 Q))))))))) : GoI E mt_150 38 [some (.ref 0), some (.int x1), some (.int x2), some (.int x3), some (.int x4), some (.int x5), none, none, none] SI SJ Q := by
  refine gj_goq gj_clT ok_150 [38, 49, 66, 83, 115, 131] ?_
  show (x1 ≤ x5 → gj_Goes E om0 mt_150 143 [some (.ref 0), some (.int x1), some (.int x2), some (.int x3), some (.int x4), some (.int x5), none, none, none] [] SI SJ (QI Q)) ∧ (¬ x1 ≤ x5 → gj_Do E om0 (gj_mt 151) [(.int x4)] SI SJ _)
  refine ⟨fun c1 => ?_, fun c1 => ?_⟩
  · refine gj_goq gj_clT ok_150 [38, 49, 66, 83, 115, 131] ?_
    show QI Q (some (.int x3)) SI SJ
    exact ⟨_, rfl, (h.1 c1)⟩
  · refine gj_Do.mono (h.2 c1) (fun v_ SI2 SJ2 h_ => ?_)
    obtain ⟨r1, rfl, q2⟩ := h_
    show gj_Goes E om0 mt_150 49 [some (.ref 0), some (.int x1), some (.int x2), some (.int x3), some (.int x4), some (.int x5), none, none, none] [(.int r1)] SI2 SJ2 (QI Q)
    refine gj_goq gj_clT ok_150 [38, 49, 66, 83, 115, 131] ?_
    show ¬ (i3 21) = 0 ∧ (gj_Do E om0 (gj_mt 151) [(.int r1)] SI2 SJ2 _)
    refine ⟨(by decide), ?_⟩
    refine gj_Do.mono q2 (fun v_ SI4 SJ4 h_ => ?_)
    obtain ⟨r3, rfl, q3⟩ := h_
    show gj_Goes E om0 mt_150 66 [some (.ref 0), some (.int x1), some (.int x2), some (.int x3), some (.int r1), some (.int x5), some (.int ((r1 - r1 / (i3 21) * (i3 21)) - (i3 10))), none, none] [(.int r3)] SI4 SJ4 (QI Q)
    refine gj_goq gj_clT ok_150 [38, 49, 66, 83, 115, 131] ?_
    show ¬ (i3 21) = 0 ∧ (gj_Do E om0 (gj_mt 151) [(.int r3)] SI4 SJ4 _)
    refine ⟨(by decide), ?_⟩
    refine gj_Do.mono q3 (fun v_ SI6 SJ6 h_ => ?_)
    obtain ⟨r5, rfl, q4⟩ := h_
    show gj_Goes E om0 mt_150 83 [some (.ref 0), some (.int x1), some (.int x2), some (.int x3), some (.int r3), some (.int x5), some (.int ((r1 - r1 / (i3 21) * (i3 21)) - (i3 10))), some (.int ((r3 - r3 / (i3 21) * (i3 21)) - (i3 10))), none] [(.int r5)] SI6 SJ6 (QI Q)
    refine gj_goq gj_clT ok_150 [38, 49, 66, 83, 115, 131] ?_
    show ¬ (i3 101) = 0 ∧ (gj_Do E om0 (gj_mt 16) [(.ref 55), (.ref 42), (.long ((r1 - r1 / (i3 21) * (i3 21)) - (i3 10)).toInt64), (.long ((r3 - r3 / (i3 21) * (i3 21)) - (i3 10)).toInt64), (.long ((r5 - r5 / (i3 101) * (i3 101)) - (i3 50)).toInt64)] SI6 SJ6 _)
    refine ⟨(by decide), ?_⟩
    refine gj_Do.mono q4 (fun v_ SI8 SJ8 h_ => ?_)
    obtain ⟨r7, rfl, q5⟩ := h_
    show gj_Goes E om0 mt_150 115 [some (.ref 0), some (.int x1), some (.int x2), some (.int x3), some (.int r5), some (.int x5), some (.int ((r1 - r1 / (i3 21) * (i3 21)) - (i3 10))), some (.int ((r3 - r3 / (i3 21) * (i3 21)) - (i3 10))), some (.int ((r5 - r5 / (i3 101) * (i3 101)) - (i3 50)))] [(.int r7)] SI8 SJ8 (QI Q)
    refine gj_goq gj_clT ok_150 [38, 49, 66, 83, 115, 131] ?_
    show (r7 = 0 → gj_Goes E om0 mt_150 137 [some (.ref 0), some (.int x1), some (.int x2), some (.int x3), some (.int r5), some (.int x5), some (.int ((r1 - r1 / (i3 21) * (i3 21)) - (i3 10))), some (.int ((r3 - r3 / (i3 21) * (i3 21)) - (i3 10))), some (.int ((r5 - r5 / (i3 101) * (i3 101)) - (i3 50)))] [] SI8 SJ8 (QI Q)) ∧ (¬ r7 = 0 → gj_Do E om0 (gj_mt 15) [(.ref 56), (.long (x2).toInt64), (.long (i6 1))] SI8 SJ8 _)
    refine ⟨fun c6 => ?_, fun c6 => ?_⟩
    · refine gj_goq gj_clT ok_150 [38, 49, 66, 83, 115, 131] ?_
      show gj_Goes E om0 mt_150 38 [some (.ref 0), some (.int x1), some (.int x2), some (.int x3), some (.int r5), some (.int (x5 + (i3 1))), some (.int ((r1 - r1 / (i3 21) * (i3 21)) - (i3 10))), some (.int ((r3 - r3 / (i3 21) * (i3 21)) - (i3 10))), some (.int ((r5 - r5 / (i3 101) * (i3 101)) - (i3 50)))] [] SI8 SJ8 (QI Q)
      exact gj_fh (q5.1 c6) (And.intro (Or.inr rfl) (And.intro (Or.inr rfl) (And.intro (Or.inr rfl) (And.intro (Or.inr rfl) (And.intro (Or.inr rfl) (And.intro (Or.inr rfl) (And.intro (Or.inl rfl) (And.intro (Or.inl rfl) (And.intro (Or.inl rfl) trivial)))))))))
    · refine gj_Do.mono (q5.2 c6) (fun v_ SI10 SJ10 h_ => ?_)
      obtain ⟨r9, rfl, q7⟩ := h_
      show gj_Goes E om0 mt_150 131 [some (.ref 0), some (.int x1), some (.int x2), some (.int x3), some (.int r5), some (.int x5), some (.int ((r1 - r1 / (i3 21) * (i3 21)) - (i3 10))), some (.int ((r3 - r3 / (i3 21) * (i3 21)) - (i3 10))), some (.int ((r5 - r5 / (i3 101) * (i3 101)) - (i3 50)))] [(.int r9)] SI10 SJ10 (QI Q)
      refine gj_goq gj_clT ok_150 [38, 49, 66, 83, 115, 131] ?_
      show (¬ r9 = 0 → gj_Goes E om0 mt_150 137 [some (.ref 0), some (.int x1), some (.int x2), some (.int x3), some (.int r5), some (.int x5), some (.int ((r1 - r1 / (i3 21) * (i3 21)) - (i3 10))), some (.int ((r3 - r3 / (i3 21) * (i3 21)) - (i3 10))), some (.int ((r5 - r5 / (i3 101) * (i3 101)) - (i3 50)))] [] SI10 SJ10 (QI Q)) ∧ (r9 = 0 → gj_Goes E om0 mt_150 38 [some (.ref 0), some (.int x1), some (.int x2), some (.int (x3 + (i3 1))), some (.int r5), some (.int (x5 + (i3 1))), some (.int ((r1 - r1 / (i3 21) * (i3 21)) - (i3 10))), some (.int ((r3 - r3 / (i3 21) * (i3 21)) - (i3 10))), some (.int ((r5 - r5 / (i3 101) * (i3 101)) - (i3 50)))] [] SI10 SJ10 (QI Q))
      refine ⟨fun c8 => ?_, fun c8 => ?_⟩
      · refine gj_goq gj_clT ok_150 [38, 49, 66, 83, 115, 131] ?_
        show gj_Goes E om0 mt_150 38 [some (.ref 0), some (.int x1), some (.int x2), some (.int x3), some (.int r5), some (.int (x5 + (i3 1))), some (.int ((r1 - r1 / (i3 21) * (i3 21)) - (i3 10))), some (.int ((r3 - r3 / (i3 21) * (i3 21)) - (i3 10))), some (.int ((r5 - r5 / (i3 101) * (i3 101)) - (i3 50)))] [] SI10 SJ10 (QI Q)
        exact gj_fh (q7.1 c8) (And.intro (Or.inr rfl) (And.intro (Or.inr rfl) (And.intro (Or.inr rfl) (And.intro (Or.inr rfl) (And.intro (Or.inr rfl) (And.intro (Or.inr rfl) (And.intro (Or.inl rfl) (And.intro (Or.inl rfl) (And.intro (Or.inl rfl) trivial)))))))))
      · exact gj_fh (q7.2 c8) (And.intro (Or.inr rfl) (And.intro (Or.inr rfl) (And.intro (Or.inr rfl) (And.intro (Or.inr rfl) (And.intro (Or.inr rfl) (And.intro (Or.inr rfl) (And.intro (Or.inl rfl) (And.intro (Or.inl rfl) (And.intro (Or.inl rfl) trivial)))))))))
set_option maxRecDepth 20000 in
/-- GraspJudge.nextNumber -/
theorem st_151 {E : gj_E} {Q : Int32 → gj_I → gj_J → Prop} (a1 : Int32) (SI : gj_I) (SJ : gj_J) (h : Q ((((i3 25173) * a1) + (i3 13849)) &&& (i3 65535)) SI SJ) : DoI E 151 [(.int a1)] SI SJ Q := by
  refine gj_start (M := mt_151) ok_151 (Nat.le_of_ble_eq_true rfl) ?_
  refine gj_goq gj_clT ok_151 [] ?_
  show QI Q (some (.int ((((i3 25173) * a1) + (i3 13849)) &&& (i3 65535)))) SI SJ
  exact ⟨_, rfl, h⟩
set_option maxRecDepth 20000 in
/-- GraspJudge.bit -/
theorem st_152 {E : gj_E} {Q : Int32 → gj_I → gj_J → Prop} (a1 : Int32) (SI : gj_I) (SJ : gj_J) (h : (a1 = 0 → Q (i3 0) SI SJ) ∧ (¬ a1 = 0 → Q (i3 1) SI SJ)) : DoI E 152 [(.int a1)] SI SJ Q := by
  refine gj_start (M := mt_152) ok_152 (Nat.le_of_ble_eq_true rfl) ?_
  refine gj_goq gj_clT ok_152 [] ?_
  show (a1 = 0 → gj_Goes E om0 mt_152 8 [some (.int a1)] [] SI SJ (QI Q)) ∧ (¬ a1 = 0 → gj_Goes E om0 mt_152 9 [some (.int a1)] [(.int (i3 1))] SI SJ (QI Q))
  refine ⟨fun c1 => ?_, fun c1 => ?_⟩
  · refine gj_goq gj_clT ok_152 [] ?_
    show QI Q (some (.int (i3 0))) SI SJ
    exact ⟨_, rfl, (h.1 c1)⟩
  · refine gj_goq gj_clT ok_152 [] ?_
    show QI Q (some (.int (i3 1))) SI SJ
    exact ⟨_, rfl, (h.2 c1)⟩
set_option maxRecDepth 20000 in
/-- GraspJudge.isPush -/
theorem st_153 {E : gj_E} {Q : Int32 → gj_I → gj_J → Prop} (a1 : Int32) (a2 : Int32) (a3 : Int32) (SI : gj_I) (SJ : gj_J) (h : ((i3 1000) < (if a1 < (if a2 < a3 then a3 else a2) then (if a2 < a3 then a3 else a2) else a1) → Q (i3 0) SI SJ) ∧ (¬ (i3 1000) < (if a1 < (if a2 < a3 then a3 else a2) then (if a2 < a3 then a3 else a2) else a1) → ((if (if a3 < a2 then a3 else a2) < a1 then (if a3 < a2 then a3 else a2) else a1) < (i3 (-1000)) → Q (i3 0) SI SJ) ∧ (¬ (if (if a3 < a2 then a3 else a2) < a1 then (if a3 < a2 then a3 else a2) else a1) < (i3 (-1000)) → Q (i3 1) SI SJ))) : DoI E 153 [(.int a1), (.int a2), (.int a3)] SI SJ Q := by
  refine gj_start (M := mt_153) ok_153 (Nat.le_of_ble_eq_true rfl) ?_
  refine gj_goq gj_clT ok_153 [] ?_
  show ((i3 1000) < (if a1 < (if a2 < a3 then a3 else a2) then (if a2 < a3 then a3 else a2) else a1) → gj_Goes E om0 mt_153 34 [some (.int a1), some (.int a2), some (.int a3)] [] SI SJ (QI Q)) ∧ (¬ (i3 1000) < (if a1 < (if a2 < a3 then a3 else a2) then (if a2 < a3 then a3 else a2) else a1) → ((if (if a3 < a2 then a3 else a2) < a1 then (if a3 < a2 then a3 else a2) else a1) < (i3 (-1000)) → gj_Goes E om0 mt_153 34 [some (.int a1), some (.int a2), some (.int a3)] [] SI SJ (QI Q)) ∧ (¬ (if (if a3 < a2 then a3 else a2) < a1 then (if a3 < a2 then a3 else a2) else a1) < (i3 (-1000)) → gj_Goes E om0 mt_153 35 [some (.int a1), some (.int a2), some (.int a3)] [(.int (i3 1))] SI SJ (QI Q)))
  refine ⟨fun c1 => ?_, fun c1 => ?_⟩
  · refine gj_goq gj_clT ok_153 [] ?_
    show ((i3 0) = 0 ∨ (i3 0) = 1) ∧ (QI Q (some (.int (i3 0))) SI SJ)
    refine ⟨(Or.inl rfl), ?_⟩
    exact ⟨_, rfl, (h.1 c1)⟩
  · refine ⟨fun c2 => ?_, fun c2 => ?_⟩
    · refine gj_goq gj_clT ok_153 [] ?_
      show ((i3 0) = 0 ∨ (i3 0) = 1) ∧ (QI Q (some (.int (i3 0))) SI SJ)
      refine ⟨(Or.inl rfl), ?_⟩
      exact ⟨_, rfl, ((h.2 c1).1 c2)⟩
    · refine gj_goq gj_clT ok_153 [] ?_
      show ((i3 1) = 0 ∨ (i3 1) = 1) ∧ (QI Q (some (.int (i3 1))) SI SJ)
      refine ⟨(Or.inr rfl), ?_⟩
      exact ⟨_, rfl, ((h.2 c1).2 c2)⟩
set_option maxRecDepth 20000 in
/-- GraspJudge.divisor -/
theorem st_154 {E : gj_E} {Q : Int64 → gj_I → gj_J → Prop} (a1 : Int64) (a2 : Int64) (SI : gj_I) (SJ : gj_J) (h : GoL E mt_154 9 [none, none, none, none, some (.long a1), none, some (.long a2), none, some (.int (i3 0)), none, none] SI SJ Q) : DoL E 154 [(.long a1), (.long a2)] SI SJ Q := by
  refine gj_start (M := mt_154) ok_154 (Nat.le_of_ble_eq_true rfl) ?_
  refine gj_goq gj_clT ok_154 [9] ?_
  show gj_Goes E om0 mt_154 9 [some (.long a1), none, some (.long a2), none, some (.long a1), none, some (.long a2), none, some (.int (i3 0)), none, none] [] SI SJ (QL Q)
  exact gj_fh h (And.intro (Or.inl rfl) (And.intro (Or.inl rfl) (And.intro (Or.inl rfl) (And.intro (Or.inl rfl) (And.intro (Or.inr rfl) (And.intro (Or.inl rfl) (And.intro (Or.inr rfl) (And.intro (Or.inl rfl) (And.intro (Or.inr rfl) (And.intro (Or.inl rfl) (And.intro (Or.inl rfl) trivial)))))))))))
set_option maxRecDepth 20000 in
theorem lp_154_9 {E : gj_E} {Q : Int64 → gj_I → gj_J → Prop} (x4 : Int64) (x6 : Int64) (x8 : Int32) (SI : gj_I) (SJ : gj_J) (h : ((i3 200) ≤ x8 → (x4 ≥ (i6 0) → Q x4 SI SJ) ∧ (¬ x4 ≥ (i6 0) → Q (-x4) SI SJ)) ∧ (¬ (i3 200) ≤ x8 → (x6 = (i6 0) → (x4 ≥ (i6 0) → Q x4 SI SJ) ∧ (¬ x4 ≥ (i6 0) → Q (-x4) SI SJ)) ∧ (¬ x6 = (i6 0) → ¬ x6 = 0 ∧ (GoL E mt_154 9 [none, none, none, none, some (.long x6), none, some (.long (x4 - x4 / x6 * x6)), none, some (.int (x8 + (i3 1))), none, none] SI SJ Q)))) : GoL E mt_154 9 [none, none, none, none, some (.long x4), none, some (.long x6), none, some (.int x8), none, none] SI SJ Q := by
  refine gj_goq gj_clT ok_154 [9] ?_
  show ((i3 200) ≤ x8 → gj_Goes E om0 mt_154 45 [none, none, none, none, some (.long x4), none, some (.long x6), none, some (.int x8), none, none] [] SI SJ (QL Q)) ∧ (¬ (i3 200) ≤ x8 → ((lg_cmp x6 (i6 0)) = 0 → gj_Goes E om0 mt_154 45 [none, none, none, none, some (.long x4), none, some (.long x6), none, some (.int x8), none, none] [] SI SJ (QL Q)) ∧ (¬ (lg_cmp x6 (i6 0)) = 0 → ¬ x6 = 0 ∧ (gj_Goes E om0 mt_154 9 [none, none, none, none, some (.long x6), none, some (.long (x4 - x4 / x6 * x6)), none, some (.int (x8 + (i3 1))), some (.long (x4 - x4 / x6 * x6)), none] [] SI SJ (QL Q))))
  refine ⟨fun c1 => ?_, fun c1 => ?_⟩
  · refine gj_goq gj_clT ok_154 [9] ?_
    show (0 ≤ (lg_cmp x4 (i6 0)) → gj_Goes E om0 mt_154 58 [none, none, none, none, some (.long x4), none, some (.long x6), none, some (.int x8), none, none] [] SI SJ (QL Q)) ∧ (¬ 0 ≤ (lg_cmp x4 (i6 0)) → gj_Goes E om0 mt_154 60 [none, none, none, none, some (.long x4), none, some (.long x6), none, some (.int x8), none, none] [(.long (-x4))] SI SJ (QL Q))
    refine ⟨fun c2 => ?_, fun c2 => ?_⟩
    · refine gj_goq gj_clT ok_154 [9] ?_
      show QL Q (some (.long x4)) SI SJ
      exact ⟨_, rfl, ((h.1 c1).1 (lgc_ge.mp c2))⟩
    · refine gj_goq gj_clT ok_154 [9] ?_
      show QL Q (some (.long (-x4))) SI SJ
      exact ⟨_, rfl, ((h.1 c1).2 (fun z_ => c2 (lgc_ge.mpr z_)))⟩
  · refine ⟨fun c3 => ?_, fun c3 => ?_⟩
    · refine gj_goq gj_clT ok_154 [9] ?_
      show (0 ≤ (lg_cmp x4 (i6 0)) → gj_Goes E om0 mt_154 58 [none, none, none, none, some (.long x4), none, some (.long x6), none, some (.int x8), none, none] [] SI SJ (QL Q)) ∧ (¬ 0 ≤ (lg_cmp x4 (i6 0)) → gj_Goes E om0 mt_154 60 [none, none, none, none, some (.long x4), none, some (.long x6), none, some (.int x8), none, none] [(.long (-x4))] SI SJ (QL Q))
      refine ⟨fun c4 => ?_, fun c4 => ?_⟩
      · refine gj_goq gj_clT ok_154 [9] ?_
        show QL Q (some (.long x4)) SI SJ
        exact ⟨_, rfl, (((h.2 c1).1 (lgc_eq.mp c3)).1 (lgc_ge.mp c4))⟩
      · refine gj_goq gj_clT ok_154 [9] ?_
        show QL Q (some (.long (-x4))) SI SJ
        exact ⟨_, rfl, (((h.2 c1).1 (lgc_eq.mp c3)).2 (fun z_ => c4 (lgc_ge.mpr z_)))⟩
    · have k5 := ((h.2 c1).2 (fun z_ => c3 (lgc_eq.mpr z_))).1
      refine ⟨k5, ?_⟩
      exact gj_fh ((h.2 c1).2 (fun z_ => c3 (lgc_eq.mpr z_))).2 (And.intro (Or.inl rfl) (And.intro (Or.inl rfl) (And.intro (Or.inl rfl) (And.intro (Or.inl rfl) (And.intro (Or.inr rfl) (And.intro (Or.inl rfl) (And.intro (Or.inr rfl) (And.intro (Or.inl rfl) (And.intro (Or.inr rfl) (And.intro (Or.inl rfl) (And.intro (Or.inl rfl) trivial)))))))))))
