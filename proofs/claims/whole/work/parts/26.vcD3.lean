/-! 26.vcD3: what the machine asks of each method, from its entry (st_) and from each loop head (lp_): printed by a program, checked by the kernel -/
set_option maxRecDepth 20000 in
/-- GraspJudgeModel.storm -/
theorem st_237 {E : gj_E} {Q : Int32 → gj_I → gj_J → Prop} (a1 : Int32) (a2 : Int32) (SI : gj_I) (SJ : gj_J) (h : DoI E 155 [(.long (a1).toInt64), (.long (i6 1)), (.long (i6 60))] SI SJ (fun r1 SI2 SJ2 => (r1 = 0 → Q (i3 (-1)) SI2 SJ2) ∧ (¬ r1 = 0 → DoI E 155 [(.long (a2).toInt64), (.long (i6 0)), (.long (i6 10000))] SI2 SJ2 (fun r3 SI4 SJ4 => (¬ r3 = 0 → DoV E 184 [(.ref 81)] SI4 SJ4 (fun SI6 SJ6 => GoI E mt_237 44 [some (.ref 81), some (.int a1), some (.int a2), some (.int (SI6 82 34)), some (.int (i3 0)), some (.int (i3 0)), none, none, none] SI6 SJ6 Q)) ∧ (r3 = 0 → Q (i3 (-1)) SI4 SJ4))))) : DoI E 237 [(.ref 81), (.int a1), (.int a2)] SI SJ Q := by
  refine gj_start (M := mt_237) ok_237 (Nat.le_of_ble_eq_true rfl) ?_
  refine gj_goq gj_clT ok_237 [9, 21, 30, 44, 56, 67, 78, 96, 104] ?_
  show gj_Do E om0 (gj_mt 155) [(.long (a1).toInt64), (.long (i6 1)), (.long (i6 60))] SI SJ _
  refine gj_Do.mono h (fun v_ SI2 SJ2 h_ => ?_)
  obtain ⟨r1, rfl, q1⟩ := h_
  show gj_Goes E om0 mt_237 9 [some (.ref 81), some (.int a1), some (.int a2), none, none, none, none, none, none] [(.int r1)] SI2 SJ2 (QI Q)
  refine gj_goq gj_clT ok_237 [9, 21, 30, 44, 56, 67, 78, 96, 104] ?_
  show (r1 = 0 → gj_Goes E om0 mt_237 24 [some (.ref 81), some (.int a1), some (.int a2), none, none, none, none, none, none] [] SI2 SJ2 (QI Q)) ∧ (¬ r1 = 0 → gj_Do E om0 (gj_mt 155) [(.long (a2).toInt64), (.long (i6 0)), (.long (i6 10000))] SI2 SJ2 _)
  refine ⟨fun c2 => ?_, fun c2 => ?_⟩
  · refine gj_goq gj_clT ok_237 [9, 21, 30, 44, 56, 67, 78, 96, 104] ?_
    show QI Q (some (.int (i3 (-1)))) SI2 SJ2
    exact ⟨_, rfl, (q1.1 c2)⟩
  · refine gj_Do.mono (q1.2 c2) (fun v_ SI4 SJ4 h_ => ?_)
    obtain ⟨r3, rfl, q3⟩ := h_
    show gj_Goes E om0 mt_237 21 [some (.ref 81), some (.int a1), some (.int a2), none, none, none, none, none, none] [(.int r3)] SI4 SJ4 (QI Q)
    refine gj_goq gj_clT ok_237 [9, 21, 30, 44, 56, 67, 78, 96, 104] ?_
    show (¬ r3 = 0 → gj_Goes E om0 mt_237 26 [some (.ref 81), some (.int a1), some (.int a2), none, none, none, none, none, none] [] SI4 SJ4 (QI Q)) ∧ (r3 = 0 → QI Q (some (.int (i3 (-1)))) SI4 SJ4)
    refine ⟨fun c4 => ?_, fun c4 => ?_⟩
    · refine gj_goq gj_clT ok_237 [9, 21, 30, 44, 56, 67, 78, 96, 104] ?_
      show gj_Do E om0 (gj_mt 184) [(.ref 81)] SI4 SJ4 _
      refine gj_Do.mono (q3.1 c4) (fun v_ SI6 SJ6 h_ => ?_)
      obtain ⟨rfl, q5⟩ := h_
      show gj_Goes E om0 mt_237 30 [some (.ref 81), some (.int a1), some (.int a2), none, none, none, none, none, none] [] SI6 SJ6 (QI Q)
      refine gj_goq gj_clT ok_237 [9, 21, 30, 44, 56, 67, 78, 96, 104] ?_
      show vp_in (i3 34) 135 ∧ (gj_Goes E om0 mt_237 44 [some (.ref 81), some (.int a1), some (.int a2), some (.int (SI6 82 34)), some (.int (i3 0)), some (.int (i3 0)), none, none, none] [] SI6 SJ6 (QI Q))
      refine ⟨(gj_vin (by decide)), ?_⟩
      exact q5
    · exact ⟨_, rfl, (q3.2 c4)⟩
set_option maxRecDepth 20000 in
theorem lp_237_44 {E : gj_E} {Q : Int32 → gj_I → gj_J → Prop} (x1 : Int32) (x2 : Int32) (x3 : Int32) (x4 : Int32) (x5 : Int32) (SI : gj_I) (SJ : gj_J) (h : (x1 ≤ x5 → Q x4 (gj_u2 SI 82 34 x3) SJ) ∧ (¬ x1 ≤ x5 → DoI E 236 [(.ref 81), (.int (i3 21))] SI SJ (fun r1 SI2 SJ2 => DoI E 236 [(.ref 81), (.int (i3 21))] SI2 SJ2 (fun r3 SI4 SJ4 => DoI E 236 [(.ref 81), (.int (i3 101))] SI4 SJ4 (fun r5 SI6 SJ6 => DoI E 227 [(.ref 81), (.long (r1 - (i3 10)).toInt64), (.long (r3 - (i3 10)).toInt64), (.long (r5 - (i3 50)).toInt64)] SI6 SJ6 (fun r7 SI8 SJ8 => (r7 = 0 → GoI E mt_237 44 [some (.ref 81), some (.int x1), some (.int x2), some (.int x3), some (.int x4), some (.int (x5 + (i3 1))), none, none, none] SI8 SJ8 Q) ∧ (¬ r7 = 0 → DoI E 232 [(.ref 81), (.int x2)] SI8 SJ8 (fun r9 SI10 SJ10 => (r9 = 0 → GoI E mt_237 44 [some (.ref 81), some (.int x1), some (.int x2), some (.int x3), some (.int x4), some (.int (x5 + (i3 1))), none, none, none] SI10 SJ10 Q) ∧ (¬ r9 = 0 → GoI E mt_237 44 [some (.ref 81), some (.int x1), some (.int x2), some (.int x3), some (.int (x4 + (i3 1))), some (.int (x5 + (i3 1))), none, none, none] SI10 SJ10 Q))))))))) : GoI E mt_237 44 [some (.ref 81), some (.int x1), some (.int x2), some (.int x3), some (.int x4), some (.int x5), none, none, none] SI SJ Q := by
  refine gj_goq gj_clT ok_237 [9, 21, 30, 44, 56, 67, 78, 96, 104] ?_
  show (x1 ≤ x5 → gj_Goes E om0 mt_237 119 [some (.ref 81), some (.int x1), some (.int x2), some (.int x3), some (.int x4), some (.int x5), none, none, none] [] SI SJ (QI Q)) ∧ (¬ x1 ≤ x5 → gj_Do E om0 (gj_mt 236) [(.ref 81), (.int (i3 21))] SI SJ _)
  refine ⟨fun c1 => ?_, fun c1 => ?_⟩
  · refine gj_goq gj_clT ok_237 [9, 21, 30, 44, 56, 67, 78, 96, 104] ?_
    show vp_in (i3 34) 135 ∧ (QI Q (some (.int x4)) (gj_u2 SI 82 34 x3) SJ)
    refine ⟨(gj_vin (by decide)), ?_⟩
    exact ⟨_, rfl, (h.1 c1)⟩
  · refine gj_Do.mono (h.2 c1) (fun v_ SI2 SJ2 h_ => ?_)
    obtain ⟨r1, rfl, q2⟩ := h_
    show gj_Goes E om0 mt_237 56 [some (.ref 81), some (.int x1), some (.int x2), some (.int x3), some (.int x4), some (.int x5), none, none, none] [(.int r1)] SI2 SJ2 (QI Q)
    refine gj_goq gj_clT ok_237 [9, 21, 30, 44, 56, 67, 78, 96, 104] ?_
    show gj_Do E om0 (gj_mt 236) [(.ref 81), (.int (i3 21))] SI2 SJ2 _
    refine gj_Do.mono q2 (fun v_ SI4 SJ4 h_ => ?_)
    obtain ⟨r3, rfl, q3⟩ := h_
    show gj_Goes E om0 mt_237 67 [some (.ref 81), some (.int x1), some (.int x2), some (.int x3), some (.int x4), some (.int x5), some (.int (r1 - (i3 10))), none, none] [(.int r3)] SI4 SJ4 (QI Q)
    refine gj_goq gj_clT ok_237 [9, 21, 30, 44, 56, 67, 78, 96, 104] ?_
    show gj_Do E om0 (gj_mt 236) [(.ref 81), (.int (i3 101))] SI4 SJ4 _
    refine gj_Do.mono q3 (fun v_ SI6 SJ6 h_ => ?_)
    obtain ⟨r5, rfl, q4⟩ := h_
    show gj_Goes E om0 mt_237 78 [some (.ref 81), some (.int x1), some (.int x2), some (.int x3), some (.int x4), some (.int x5), some (.int (r1 - (i3 10))), some (.int (r3 - (i3 10))), none] [(.int r5)] SI6 SJ6 (QI Q)
    refine gj_goq gj_clT ok_237 [9, 21, 30, 44, 56, 67, 78, 96, 104] ?_
    show gj_Do E om0 (gj_mt 227) [(.ref 81), (.long (r1 - (i3 10)).toInt64), (.long (r3 - (i3 10)).toInt64), (.long (r5 - (i3 50)).toInt64)] SI6 SJ6 _
    refine gj_Do.mono q4 (fun v_ SI8 SJ8 h_ => ?_)
    obtain ⟨r7, rfl, q5⟩ := h_
    show gj_Goes E om0 mt_237 96 [some (.ref 81), some (.int x1), some (.int x2), some (.int x3), some (.int x4), some (.int x5), some (.int (r1 - (i3 10))), some (.int (r3 - (i3 10))), some (.int (r5 - (i3 50)))] [(.int r7)] SI8 SJ8 (QI Q)
    refine gj_goq gj_clT ok_237 [9, 21, 30, 44, 56, 67, 78, 96, 104] ?_
    show (r7 = 0 → gj_Goes E om0 mt_237 113 [some (.ref 81), some (.int x1), some (.int x2), some (.int x3), some (.int x4), some (.int x5), some (.int (r1 - (i3 10))), some (.int (r3 - (i3 10))), some (.int (r5 - (i3 50)))] [] SI8 SJ8 (QI Q)) ∧ (¬ r7 = 0 → gj_Do E om0 (gj_mt 232) [(.ref 81), (.int x2)] SI8 SJ8 _)
    refine ⟨fun c6 => ?_, fun c6 => ?_⟩
    · refine gj_goq gj_clT ok_237 [9, 21, 30, 44, 56, 67, 78, 96, 104] ?_
      show gj_Goes E om0 mt_237 44 [some (.ref 81), some (.int x1), some (.int x2), some (.int x3), some (.int x4), some (.int (x5 + (i3 1))), some (.int (r1 - (i3 10))), some (.int (r3 - (i3 10))), some (.int (r5 - (i3 50)))] [] SI8 SJ8 (QI Q)
      exact gj_fh (q5.1 c6) (And.intro (Or.inr rfl) (And.intro (Or.inr rfl) (And.intro (Or.inr rfl) (And.intro (Or.inr rfl) (And.intro (Or.inr rfl) (And.intro (Or.inr rfl) (And.intro (Or.inl rfl) (And.intro (Or.inl rfl) (And.intro (Or.inl rfl) trivial)))))))))
    · refine gj_Do.mono (q5.2 c6) (fun v_ SI10 SJ10 h_ => ?_)
      obtain ⟨r9, rfl, q7⟩ := h_
      show gj_Goes E om0 mt_237 104 [some (.ref 81), some (.int x1), some (.int x2), some (.int x3), some (.int x4), some (.int x5), some (.int (r1 - (i3 10))), some (.int (r3 - (i3 10))), some (.int (r5 - (i3 50)))] [(.int r9)] SI10 SJ10 (QI Q)
      refine gj_goq gj_clT ok_237 [9, 21, 30, 44, 56, 67, 78, 96, 104] ?_
      show (r9 = 0 → gj_Goes E om0 mt_237 113 [some (.ref 81), some (.int x1), some (.int x2), some (.int x3), some (.int x4), some (.int x5), some (.int (r1 - (i3 10))), some (.int (r3 - (i3 10))), some (.int (r5 - (i3 50)))] [] SI10 SJ10 (QI Q)) ∧ (¬ r9 = 0 → gj_Goes E om0 mt_237 44 [some (.ref 81), some (.int x1), some (.int x2), some (.int x3), some (.int (x4 + (i3 1))), some (.int (x5 + (i3 1))), some (.int (r1 - (i3 10))), some (.int (r3 - (i3 10))), some (.int (r5 - (i3 50)))] [] SI10 SJ10 (QI Q))
      refine ⟨fun c8 => ?_, fun c8 => ?_⟩
      · refine gj_goq gj_clT ok_237 [9, 21, 30, 44, 56, 67, 78, 96, 104] ?_
        show gj_Goes E om0 mt_237 44 [some (.ref 81), some (.int x1), some (.int x2), some (.int x3), some (.int x4), some (.int (x5 + (i3 1))), some (.int (r1 - (i3 10))), some (.int (r3 - (i3 10))), some (.int (r5 - (i3 50)))] [] SI10 SJ10 (QI Q)
        exact gj_fh (q7.1 c8) (And.intro (Or.inr rfl) (And.intro (Or.inr rfl) (And.intro (Or.inr rfl) (And.intro (Or.inr rfl) (And.intro (Or.inr rfl) (And.intro (Or.inr rfl) (And.intro (Or.inl rfl) (And.intro (Or.inl rfl) (And.intro (Or.inl rfl) trivial)))))))))
      · exact gj_fh (q7.2 c8) (And.intro (Or.inr rfl) (And.intro (Or.inr rfl) (And.intro (Or.inr rfl) (And.intro (Or.inr rfl) (And.intro (Or.inr rfl) (And.intro (Or.inr rfl) (And.intro (Or.inl rfl) (And.intro (Or.inl rfl) (And.intro (Or.inl rfl) trivial)))))))))
set_option maxRecDepth 20000 in
/-- GraspJudgeModel.seed -/
theorem st_238 {E : gj_E} {Q : Int32 → gj_I → gj_J → Prop} (a1 : Int32) (SI : gj_I) (SJ : gj_J) (h : DoI E 155 [(.long (a1).toInt64), (.long (i6 0)), (.long (i6 65535))] SI SJ (fun r1 SI2 SJ2 => (¬ r1 = 0 → Q (i3 1) (gj_u2 SI2 82 34 a1) SJ2) ∧ (r1 = 0 → Q (i3 0) SI2 SJ2))) : DoI E 238 [(.ref 81), (.int a1)] SI SJ Q := by
  refine gj_start (M := mt_238) ok_238 (Nat.le_of_ble_eq_true rfl) ?_
  refine gj_goq gj_clT ok_238 [9] ?_
  show gj_Do E om0 (gj_mt 155) [(.long (a1).toInt64), (.long (i6 0)), (.long (i6 65535))] SI SJ _
  refine gj_Do.mono h (fun v_ SI2 SJ2 h_ => ?_)
  obtain ⟨r1, rfl, q1⟩ := h_
  show gj_Goes E om0 mt_238 9 [some (.ref 81), some (.int a1)] [(.int r1)] SI2 SJ2 (QI Q)
  refine gj_goq gj_clT ok_238 [9] ?_
  show (¬ r1 = 0 → gj_Goes E om0 mt_238 14 [some (.ref 81), some (.int a1)] [] SI2 SJ2 (QI Q)) ∧ (r1 = 0 → ((i3 0) = 0 ∨ (i3 0) = 1) ∧ (QI Q (some (.int (i3 0))) SI2 SJ2))
  refine ⟨fun c2 => ?_, fun c2 => ?_⟩
  · refine gj_goq gj_clT ok_238 [9] ?_
    show vp_in (i3 34) 135 ∧ (((i3 1) = 0 ∨ (i3 1) = 1) ∧ (QI Q (some (.int (i3 1))) (gj_u2 SI2 82 34 a1) SJ2))
    refine ⟨(gj_vin (by decide)), ?_⟩
    refine ⟨(Or.inr rfl), ?_⟩
    exact ⟨_, rfl, (q1.1 c2)⟩
  · refine ⟨(Or.inl rfl), ?_⟩
    exact ⟨_, rfl, (q1.2 c2)⟩
set_option maxRecDepth 20000 in
/-- GraspJudgeModel.load -/
theorem st_239 {E : gj_E} {Q : Int64 → gj_I → gj_J → Prop} (a1 : Int32) (SI : gj_I) (SJ : gj_J) (h : DoI E 155 [(.long (a1).toInt64), (.long (i6 0)), (.long (i6 5))] SI SJ (fun r1 SI2 SJ2 => (¬ r1 = 0 → DoV E 184 [(.ref 81)] SI2 SJ2 (fun SI4 SJ4 => GoL E mt_239 43 [some (.ref 81), some (.int a1), some (.int (i3 0)), some (.long (i6 (-2))), none, some (.long (i6 (-2))), none, some (.long (i6 0)), none, some (.long (i6 0)), none, some (.long (i6 0)), none, some (.int (i3 0)), none] SI4 SJ4 Q)) ∧ (r1 = 0 → Q (i6 (-9000000000000000000)) SI2 SJ2))) : DoL E 239 [(.ref 81), (.int a1)] SI SJ Q := by
  refine gj_start (M := mt_239) ok_239 (Nat.le_of_ble_eq_true rfl) ?_
  refine gj_goq gj_clT ok_239 [9, 20, 22, 26, 31, 34, 37, 40, 43, 64, 77, 92, 107, 139, 152, 184, 190, 255] ?_
  show gj_Do E om0 (gj_mt 155) [(.long (a1).toInt64), (.long (i6 0)), (.long (i6 5))] SI SJ _
  refine gj_Do.mono h (fun v_ SI2 SJ2 h_ => ?_)
  obtain ⟨r1, rfl, q1⟩ := h_
  show gj_Goes E om0 mt_239 9 [some (.ref 81), some (.int a1), none, none, none, none, none, none, none, none, none, none, none, none, none] [(.int r1)] SI2 SJ2 (QL Q)
  refine gj_goq gj_clT ok_239 [9, 20, 22, 26, 31, 34, 37, 40, 43, 64, 77, 92, 107, 139, 152, 184, 190, 255] ?_
  show (¬ r1 = 0 → gj_Goes E om0 mt_239 16 [some (.ref 81), some (.int a1), none, none, none, none, none, none, none, none, none, none, none, none, none] [] SI2 SJ2 (QL Q)) ∧ (r1 = 0 → QL Q (some (.long (i6 (-9000000000000000000)))) SI2 SJ2)
  refine ⟨fun c2 => ?_, fun c2 => ?_⟩
  · refine gj_goq gj_clT ok_239 [9, 20, 22, 26, 31, 34, 37, 40, 43, 64, 77, 92, 107, 139, 152, 184, 190, 255] ?_
    show gj_Do E om0 (gj_mt 184) [(.ref 81)] SI2 SJ2 _
    refine gj_Do.mono (q1.1 c2) (fun v_ SI4 SJ4 h_ => ?_)
    obtain ⟨rfl, q3⟩ := h_
    show gj_Goes E om0 mt_239 20 [some (.ref 81), some (.int a1), none, none, none, none, none, none, none, none, none, none, none, none, none] [] SI4 SJ4 (QL Q)
    refine gj_goq gj_clT ok_239 [9, 20, 22, 26, 31, 34, 37, 40, 43, 64, 77, 92, 107, 139, 152, 184, 190, 255] ?_
    show gj_Goes E om0 mt_239 22 [some (.ref 81), some (.int a1), some (.int (i3 0)), none, none, none, none, none, none, none, none, none, none, none, none] [] SI4 SJ4 (QL Q)
    refine gj_goq gj_clT ok_239 [9, 20, 22, 26, 31, 34, 37, 40, 43, 64, 77, 92, 107, 139, 152, 184, 190, 255] ?_
    show gj_Goes E om0 mt_239 26 [some (.ref 81), some (.int a1), some (.int (i3 0)), some (.long (i6 (-2))), none, none, none, none, none, none, none, none, none, none, none] [] SI4 SJ4 (QL Q)
    refine gj_goq gj_clT ok_239 [9, 20, 22, 26, 31, 34, 37, 40, 43, 64, 77, 92, 107, 139, 152, 184, 190, 255] ?_
    show gj_Goes E om0 mt_239 31 [some (.ref 81), some (.int a1), some (.int (i3 0)), some (.long (i6 (-2))), none, some (.long (i6 (-2))), none, none, none, none, none, none, none, none, none] [] SI4 SJ4 (QL Q)
    refine gj_goq gj_clT ok_239 [9, 20, 22, 26, 31, 34, 37, 40, 43, 64, 77, 92, 107, 139, 152, 184, 190, 255] ?_
    show gj_Goes E om0 mt_239 34 [some (.ref 81), some (.int a1), some (.int (i3 0)), some (.long (i6 (-2))), none, some (.long (i6 (-2))), none, some (.long (i6 0)), none, none, none, none, none, none, none] [] SI4 SJ4 (QL Q)
    refine gj_goq gj_clT ok_239 [9, 20, 22, 26, 31, 34, 37, 40, 43, 64, 77, 92, 107, 139, 152, 184, 190, 255] ?_
    show gj_Goes E om0 mt_239 37 [some (.ref 81), some (.int a1), some (.int (i3 0)), some (.long (i6 (-2))), none, some (.long (i6 (-2))), none, some (.long (i6 0)), none, some (.long (i6 0)), none, none, none, none, none] [] SI4 SJ4 (QL Q)
    refine gj_goq gj_clT ok_239 [9, 20, 22, 26, 31, 34, 37, 40, 43, 64, 77, 92, 107, 139, 152, 184, 190, 255] ?_
    show gj_Goes E om0 mt_239 40 [some (.ref 81), some (.int a1), some (.int (i3 0)), some (.long (i6 (-2))), none, some (.long (i6 (-2))), none, some (.long (i6 0)), none, some (.long (i6 0)), none, some (.long (i6 0)), none, none, none] [] SI4 SJ4 (QL Q)
    refine gj_goq gj_clT ok_239 [9, 20, 22, 26, 31, 34, 37, 40, 43, 64, 77, 92, 107, 139, 152, 184, 190, 255] ?_
    show gj_Goes E om0 mt_239 43 [some (.ref 81), some (.int a1), some (.int (i3 0)), some (.long (i6 (-2))), none, some (.long (i6 (-2))), none, some (.long (i6 0)), none, some (.long (i6 0)), none, some (.long (i6 0)), none, some (.int (i3 0)), none] [] SI4 SJ4 (QL Q)
    exact q3
  · exact ⟨_, rfl, (q1.2 c2)⟩
set_option maxRecDepth 20000 in
theorem lp_239_43 {E : gj_E} {Q : Int64 → gj_I → gj_J → Prop} (x1 : Int32) (x2 : Int32) (x3 : Int64) (x5 : Int64) (x7 : Int64) (x9 : Int64) (x11 : Int64) (x13 : Int32) (SI : gj_I) (SJ : gj_J) (h : ((SI 82 116) ≤ x13 → (x1 = (i3 0) → Q (SI 82 116).toInt64 SI SJ) ∧ (x1 = (i3 1) → Q (x2).toInt64 SI SJ) ∧ (x1 = (i3 2) → Q x3 SI SJ) ∧ (x1 = (i3 3) → Q x5 SI SJ) ∧ (x1.toInt < 0 ∨ 3 < x1.toInt → DoI E 227 [(.ref 81), (.long x7), (.long x9), (.long x11)] SI SJ (fun r1 SI2 SJ2 => (¬ r1 = 0 → (¬ x1 = (i3 4) → Q (SJ2 81 31) SI2 SJ2) ∧ (x1 = (i3 4) → Q (SJ2 81 30) SI2 SJ2)) ∧ (r1 = 0 → Q (i6 (-2)) SI2 SJ2)))) ∧ (¬ (SI 82 116) ≤ x13 → vp_in ((i3 117) + ((i3 3) * x13)) 135 ∧ (vp_in (((i3 117) + ((i3 3) * x13)) + (i3 1)) 135 ∧ (vp_in (((i3 117) + ((i3 3) * x13)) + (i3 2)) 135 ∧ (DoI E 227 [(.ref 81), (.long (SI 82 (gj_n ((i3 117) + ((i3 3) * x13)))).toInt64), (.long (SI 82 (gj_n (((i3 117) + ((i3 3) * x13)) + (i3 1)))).toInt64), (.long (SI 82 (gj_n (((i3 117) + ((i3 3) * x13)) + (i3 2)))).toInt64)] SI SJ (fun r3 SI4 SJ4 => (¬ r3 = 0 → (x5 ≤ (i6 0) → GoL E mt_239 43 [some (.ref 81), some (.int x1), some (.int (x2 ||| ((i3 1) <<< (x13 &&& 31)))), some (.long (SJ4 81 30)), none, some (.long (SJ4 81 31)), none, some (.long (x7 + (SI 82 (gj_n ((i3 117) + ((i3 3) * x13)))).toInt64)), none, some (.long (x9 + (SI 82 (gj_n (((i3 117) + ((i3 3) * x13)) + (i3 1)))).toInt64)), none, some (.long (x11 + (SI 82 (gj_n (((i3 117) + ((i3 3) * x13)) + (i3 2)))).toInt64)), none, some (.int (x13 + (i3 1))), none] SI4 SJ4 Q) ∧ (¬ x5 ≤ (i6 0) → (((SJ4 81 30) * x5) > (x3 * (SJ4 81 31)) → GoL E mt_239 43 [some (.ref 81), some (.int x1), some (.int (x2 ||| ((i3 1) <<< (x13 &&& 31)))), some (.long (SJ4 81 30)), none, some (.long (SJ4 81 31)), none, some (.long (x7 + (SI 82 (gj_n ((i3 117) + ((i3 3) * x13)))).toInt64)), none, some (.long (x9 + (SI 82 (gj_n (((i3 117) + ((i3 3) * x13)) + (i3 1)))).toInt64)), none, some (.long (x11 + (SI 82 (gj_n (((i3 117) + ((i3 3) * x13)) + (i3 2)))).toInt64)), none, some (.int (x13 + (i3 1))), none] SI4 SJ4 Q) ∧ (¬ ((SJ4 81 30) * x5) > (x3 * (SJ4 81 31)) → GoL E mt_239 43 [some (.ref 81), some (.int x1), some (.int (x2 ||| ((i3 1) <<< (x13 &&& 31)))), some (.long x3), none, some (.long x5), none, some (.long (x7 + (SI 82 (gj_n ((i3 117) + ((i3 3) * x13)))).toInt64)), none, some (.long (x9 + (SI 82 (gj_n (((i3 117) + ((i3 3) * x13)) + (i3 1)))).toInt64)), none, some (.long (x11 + (SI 82 (gj_n (((i3 117) + ((i3 3) * x13)) + (i3 2)))).toInt64)), none, some (.int (x13 + (i3 1))), none] SI4 SJ4 Q))) ∧ (r3 = 0 → GoL E mt_239 43 [some (.ref 81), some (.int x1), some (.int x2), some (.long x3), none, some (.long x5), none, some (.long (x7 + (SI 82 (gj_n ((i3 117) + ((i3 3) * x13)))).toInt64)), none, some (.long (x9 + (SI 82 (gj_n (((i3 117) + ((i3 3) * x13)) + (i3 1)))).toInt64)), none, some (.long (x11 + (SI 82 (gj_n (((i3 117) + ((i3 3) * x13)) + (i3 2)))).toInt64)), none, some (.int (x13 + (i3 1))), none] SI4 SJ4 Q))))))) : GoL E mt_239 43 [some (.ref 81), some (.int x1), some (.int x2), some (.long x3), none, some (.long x5), none, some (.long x7), none, some (.long x9), none, some (.long x11), none, some (.int x13), none] SI SJ Q := by
  refine gj_goq gj_clT ok_239 [9, 20, 22, 26, 31, 34, 37, 40, 43, 64, 77, 92, 107, 139, 152, 184, 190, 255] ?_
  show vp_in (i3 116) 135 ∧ (((SI 82 116) ≤ x13 → gj_Goes E om0 mt_239 196 [some (.ref 81), some (.int x1), some (.int x2), some (.long x3), none, some (.long x5), none, some (.long x7), none, some (.long x9), none, some (.long x11), none, some (.int x13), none] [] SI SJ (QL Q)) ∧ (¬ (SI 82 116) ≤ x13 → gj_Goes E om0 mt_239 64 [some (.ref 81), some (.int x1), some (.int x2), some (.long x3), none, some (.long x5), none, some (.long x7), none, some (.long x9), none, some (.long x11), none, some (.int x13), some (.int ((i3 117) + ((i3 3) * x13)))] [] SI SJ (QL Q)))
  refine ⟨(gj_vin (by decide)), ?_⟩
  refine ⟨fun c1 => ?_, fun c1 => ?_⟩
  · refine gj_goq gj_clT ok_239 [9, 20, 22, 26, 31, 34, 37, 40, 43, 64, 77, 92, 107, 139, 152, 184, 190, 255] ?_
    show ((x1 = Int32.ofInt (0) → gj_Goes E om0 mt_239 228 [some (.ref 81), some (.int x1), some (.int x2), some (.long x3), none, some (.long x5), none, some (.long x7), none, some (.long x9), none, some (.long x11), none, some (.int x13), none] [] SI SJ (QL Q)) ∧ (x1 = Int32.ofInt (1) → gj_Goes E om0 mt_239 237 [some (.ref 81), some (.int x1), some (.int x2), some (.long x3), none, some (.long x5), none, some (.long x7), none, some (.long x9), none, some (.long x11), none, some (.int x13), none] [] SI SJ (QL Q)) ∧ (x1 = Int32.ofInt (2) → gj_Goes E om0 mt_239 240 [some (.ref 81), some (.int x1), some (.int x2), some (.long x3), none, some (.long x5), none, some (.long x7), none, some (.long x9), none, some (.long x11), none, some (.int x13), none] [] SI SJ (QL Q)) ∧ (x1 = Int32.ofInt (3) → gj_Goes E om0 mt_239 242 [some (.ref 81), some (.int x1), some (.int x2), some (.long x3), none, some (.long x5), none, some (.long x7), none, some (.long x9), none, some (.long x11), none, some (.int x13), none] [] SI SJ (QL Q)) ∧ True) ∧ (x1.toInt < 0 ∨ 3 < x1.toInt → gj_Goes E om0 mt_239 245 [some (.ref 81), some (.int x1), some (.int x2), some (.long x3), none, some (.long x5), none, some (.long x7), none, some (.long x9), none, some (.long x11), none, some (.int x13), none] [] SI SJ (QL Q))
    refine ⟨⟨fun c2 => ?_, ⟨fun c2 => ?_, ⟨fun c2 => ?_, ⟨fun c2 => ?_, trivial⟩⟩⟩⟩, fun c2 => ?_⟩
    · refine gj_goq gj_clT ok_239 [9, 20, 22, 26, 31, 34, 37, 40, 43, 64, 77, 92, 107, 139, 152, 184, 190, 255] ?_
      show vp_in (i3 116) 135 ∧ (QL Q (some (.long (SI 82 116).toInt64)) SI SJ)
      refine ⟨(gj_vin (by decide)), ?_⟩
      exact ⟨_, rfl, ((h.1 c1).1 c2)⟩
    · refine gj_goq gj_clT ok_239 [9, 20, 22, 26, 31, 34, 37, 40, 43, 64, 77, 92, 107, 139, 152, 184, 190, 255] ?_
      show QL Q (some (.long (x2).toInt64)) SI SJ
      exact ⟨_, rfl, ((h.1 c1).2.1 c2)⟩
    · refine gj_goq gj_clT ok_239 [9, 20, 22, 26, 31, 34, 37, 40, 43, 64, 77, 92, 107, 139, 152, 184, 190, 255] ?_
      show QL Q (some (.long x3)) SI SJ
      exact ⟨_, rfl, ((h.1 c1).2.2.1 c2)⟩
    · refine gj_goq gj_clT ok_239 [9, 20, 22, 26, 31, 34, 37, 40, 43, 64, 77, 92, 107, 139, 152, 184, 190, 255] ?_
      show QL Q (some (.long x5)) SI SJ
      exact ⟨_, rfl, ((h.1 c1).2.2.2.1 c2)⟩
    · refine gj_goq gj_clT ok_239 [9, 20, 22, 26, 31, 34, 37, 40, 43, 64, 77, 92, 107, 139, 152, 184, 190, 255] ?_
      show gj_Do E om0 (gj_mt 227) [(.ref 81), (.long x7), (.long x9), (.long x11)] SI SJ _
      refine gj_Do.mono ((h.1 c1).2.2.2.2 c2) (fun v_ SI2 SJ2 h_ => ?_)
      obtain ⟨r1, rfl, q3⟩ := h_
      show gj_Goes E om0 mt_239 255 [some (.ref 81), some (.int x1), some (.int x2), some (.long x3), none, some (.long x5), none, some (.long x7), none, some (.long x9), none, some (.long x11), none, some (.int x13), none] [(.int r1)] SI2 SJ2 (QL Q)
      refine gj_goq gj_clT ok_239 [9, 20, 22, 26, 31, 34, 37, 40, 43, 64, 77, 92, 107, 139, 152, 184, 190, 255] ?_
      show (¬ r1 = 0 → gj_Goes E om0 mt_239 264 [some (.ref 81), some (.int x1), some (.int x2), some (.long x3), none, some (.long x5), none, some (.long x7), none, some (.long x9), none, some (.long x11), none, some (.int x13), none] [] SI2 SJ2 (QL Q)) ∧ (r1 = 0 → gj_Goes E om0 mt_239 280 [some (.ref 81), some (.int x1), some (.int x2), some (.long x3), none, some (.long x5), none, some (.long x7), none, some (.long x9), none, some (.long x11), none, some (.int x13), none] [(.long (i6 (-2)))] SI2 SJ2 (QL Q))
      refine ⟨fun c4 => ?_, fun c4 => ?_⟩
      · refine gj_goq gj_clT ok_239 [9, 20, 22, 26, 31, 34, 37, 40, 43, 64, 77, 92, 107, 139, 152, 184, 190, 255] ?_
        show (¬ x1 = (i3 4) → gj_Goes E om0 mt_239 276 [some (.ref 81), some (.int x1), some (.int x2), some (.long x3), none, some (.long x5), none, some (.long x7), none, some (.long x9), none, some (.long x11), none, some (.int x13), none] [] SI2 SJ2 (QL Q)) ∧ (x1 = (i3 4) → gj_Goes E om0 mt_239 280 [some (.ref 81), some (.int x1), some (.int x2), some (.long x3), none, some (.long x5), none, some (.long x7), none, some (.long x9), none, some (.long x11), none, some (.int x13), none] [(.long (SJ2 81 30))] SI2 SJ2 (QL Q))
        refine ⟨fun c5 => ?_, fun c5 => ?_⟩
        · refine gj_goq gj_clT ok_239 [9, 20, 22, 26, 31, 34, 37, 40, 43, 64, 77, 92, 107, 139, 152, 184, 190, 255] ?_
          show QL Q (some (.long (SJ2 81 31))) SI2 SJ2
          exact ⟨_, rfl, ((q3.1 c4).1 c5)⟩
        · refine gj_goq gj_clT ok_239 [9, 20, 22, 26, 31, 34, 37, 40, 43, 64, 77, 92, 107, 139, 152, 184, 190, 255] ?_
          show QL Q (some (.long (SJ2 81 30))) SI2 SJ2
          exact ⟨_, rfl, ((q3.1 c4).2 c5)⟩
      · refine gj_goq gj_clT ok_239 [9, 20, 22, 26, 31, 34, 37, 40, 43, 64, 77, 92, 107, 139, 152, 184, 190, 255] ?_
        show QL Q (some (.long (i6 (-2)))) SI2 SJ2
        exact ⟨_, rfl, (q3.2 c4)⟩
  · refine gj_goq gj_clT ok_239 [9, 20, 22, 26, 31, 34, 37, 40, 43, 64, 77, 92, 107, 139, 152, 184, 190, 255] ?_
    show vp_in ((i3 117) + ((i3 3) * x13)) 135 ∧ (gj_Goes E om0 mt_239 77 [some (.ref 81), some (.int x1), some (.int x2), some (.long x3), none, some (.long x5), none, some (.long (x7 + (SI 82 (gj_n ((i3 117) + ((i3 3) * x13)))).toInt64)), none, some (.long x9), none, some (.long x11), none, some (.int x13), some (.int ((i3 117) + ((i3 3) * x13)))] [] SI SJ (QL Q))
    have k6 := (h.2 c1).1
    refine ⟨k6, ?_⟩
    refine gj_goq gj_clT ok_239 [9, 20, 22, 26, 31, 34, 37, 40, 43, 64, 77, 92, 107, 139, 152, 184, 190, 255] ?_
    show vp_in (((i3 117) + ((i3 3) * x13)) + (i3 1)) 135 ∧ (gj_Goes E om0 mt_239 92 [some (.ref 81), some (.int x1), some (.int x2), some (.long x3), none, some (.long x5), none, some (.long (x7 + (SI 82 (gj_n ((i3 117) + ((i3 3) * x13)))).toInt64)), none, some (.long (x9 + (SI 82 (gj_n (((i3 117) + ((i3 3) * x13)) + (i3 1)))).toInt64)), none, some (.long x11), none, some (.int x13), some (.int ((i3 117) + ((i3 3) * x13)))] [] SI SJ (QL Q))
    have k7 := (h.2 c1).2.1
    refine ⟨k7, ?_⟩
    refine gj_goq gj_clT ok_239 [9, 20, 22, 26, 31, 34, 37, 40, 43, 64, 77, 92, 107, 139, 152, 184, 190, 255] ?_
    show vp_in (((i3 117) + ((i3 3) * x13)) + (i3 2)) 135 ∧ (gj_Goes E om0 mt_239 107 [some (.ref 81), some (.int x1), some (.int x2), some (.long x3), none, some (.long x5), none, some (.long (x7 + (SI 82 (gj_n ((i3 117) + ((i3 3) * x13)))).toInt64)), none, some (.long (x9 + (SI 82 (gj_n (((i3 117) + ((i3 3) * x13)) + (i3 1)))).toInt64)), none, some (.long (x11 + (SI 82 (gj_n (((i3 117) + ((i3 3) * x13)) + (i3 2)))).toInt64)), none, some (.int x13), some (.int ((i3 117) + ((i3 3) * x13)))] [] SI SJ (QL Q))
    have k8 := (h.2 c1).2.2.1
    refine ⟨k8, ?_⟩
    refine gj_goq gj_clT ok_239 [9, 20, 22, 26, 31, 34, 37, 40, 43, 64, 77, 92, 107, 139, 152, 184, 190, 255] ?_
    show vp_in ((i3 117) + ((i3 3) * x13)) 135 ∧ (vp_in (((i3 117) + ((i3 3) * x13)) + (i3 1)) 135 ∧ (vp_in (((i3 117) + ((i3 3) * x13)) + (i3 2)) 135 ∧ (gj_Do E om0 (gj_mt 227) [(.ref 81), (.long (SI 82 (gj_n ((i3 117) + ((i3 3) * x13)))).toInt64), (.long (SI 82 (gj_n (((i3 117) + ((i3 3) * x13)) + (i3 1)))).toInt64), (.long (SI 82 (gj_n (((i3 117) + ((i3 3) * x13)) + (i3 2)))).toInt64)] SI SJ _)))
    refine ⟨k6, ?_⟩
    refine ⟨k7, ?_⟩
    refine ⟨k8, ?_⟩
    refine gj_Do.mono (h.2 c1).2.2.2 (fun v_ SI4 SJ4 h_ => ?_)
    obtain ⟨r3, rfl, q9⟩ := h_
    show gj_Goes E om0 mt_239 139 [some (.ref 81), some (.int x1), some (.int x2), some (.long x3), none, some (.long x5), none, some (.long (x7 + (SI 82 (gj_n ((i3 117) + ((i3 3) * x13)))).toInt64)), none, some (.long (x9 + (SI 82 (gj_n (((i3 117) + ((i3 3) * x13)) + (i3 1)))).toInt64)), none, some (.long (x11 + (SI 82 (gj_n (((i3 117) + ((i3 3) * x13)) + (i3 2)))).toInt64)), none, some (.int x13), some (.int ((i3 117) + ((i3 3) * x13)))] [(.int r3)] SI4 SJ4 (QL Q)
    refine gj_goq gj_clT ok_239 [9, 20, 22, 26, 31, 34, 37, 40, 43, 64, 77, 92, 107, 139, 152, 184, 190, 255] ?_
    show (¬ r3 = 0 → gj_Goes E om0 mt_239 145 [some (.ref 81), some (.int x1), some (.int x2), some (.long x3), none, some (.long x5), none, some (.long (x7 + (SI 82 (gj_n ((i3 117) + ((i3 3) * x13)))).toInt64)), none, some (.long (x9 + (SI 82 (gj_n (((i3 117) + ((i3 3) * x13)) + (i3 1)))).toInt64)), none, some (.long (x11 + (SI 82 (gj_n (((i3 117) + ((i3 3) * x13)) + (i3 2)))).toInt64)), none, some (.int x13), some (.int ((i3 117) + ((i3 3) * x13)))] [] SI4 SJ4 (QL Q)) ∧ (r3 = 0 → gj_Goes E om0 mt_239 190 [some (.ref 81), some (.int x1), some (.int x2), some (.long x3), none, some (.long x5), none, some (.long (x7 + (SI 82 (gj_n ((i3 117) + ((i3 3) * x13)))).toInt64)), none, some (.long (x9 + (SI 82 (gj_n (((i3 117) + ((i3 3) * x13)) + (i3 1)))).toInt64)), none, some (.long (x11 + (SI 82 (gj_n (((i3 117) + ((i3 3) * x13)) + (i3 2)))).toInt64)), none, some (.int x13), some (.int ((i3 117) + ((i3 3) * x13)))] [] SI4 SJ4 (QL Q))
    refine ⟨fun c10 => ?_, fun c10 => ?_⟩
    · refine gj_goq gj_clT ok_239 [9, 20, 22, 26, 31, 34, 37, 40, 43, 64, 77, 92, 107, 139, 152, 184, 190, 255] ?_
      show gj_Goes E om0 mt_239 152 [some (.ref 81), some (.int x1), some (.int (x2 ||| ((i3 1) <<< (x13 &&& 31)))), some (.long x3), none, some (.long x5), none, some (.long (x7 + (SI 82 (gj_n ((i3 117) + ((i3 3) * x13)))).toInt64)), none, some (.long (x9 + (SI 82 (gj_n (((i3 117) + ((i3 3) * x13)) + (i3 1)))).toInt64)), none, some (.long (x11 + (SI 82 (gj_n (((i3 117) + ((i3 3) * x13)) + (i3 2)))).toInt64)), none, some (.int x13), some (.int ((i3 117) + ((i3 3) * x13)))] [] SI4 SJ4 (QL Q)
      refine gj_goq gj_clT ok_239 [9, 20, 22, 26, 31, 34, 37, 40, 43, 64, 77, 92, 107, 139, 152, 184, 190, 255] ?_
      show ((lg_cmp x5 (i6 0)) ≤ 0 → gj_Goes E om0 mt_239 179 [some (.ref 81), some (.int x1), some (.int (x2 ||| ((i3 1) <<< (x13 &&& 31)))), some (.long x3), none, some (.long x5), none, some (.long (x7 + (SI 82 (gj_n ((i3 117) + ((i3 3) * x13)))).toInt64)), none, some (.long (x9 + (SI 82 (gj_n (((i3 117) + ((i3 3) * x13)) + (i3 1)))).toInt64)), none, some (.long (x11 + (SI 82 (gj_n (((i3 117) + ((i3 3) * x13)) + (i3 2)))).toInt64)), none, some (.int x13), some (.int ((i3 117) + ((i3 3) * x13)))] [] SI4 SJ4 (QL Q)) ∧ (¬ (lg_cmp x5 (i6 0)) ≤ 0 → (0 < (lg_cmp ((SJ4 81 30) * x5) (x3 * (SJ4 81 31))) → gj_Goes E om0 mt_239 179 [some (.ref 81), some (.int x1), some (.int (x2 ||| ((i3 1) <<< (x13 &&& 31)))), some (.long x3), none, some (.long x5), none, some (.long (x7 + (SI 82 (gj_n ((i3 117) + ((i3 3) * x13)))).toInt64)), none, some (.long (x9 + (SI 82 (gj_n (((i3 117) + ((i3 3) * x13)) + (i3 1)))).toInt64)), none, some (.long (x11 + (SI 82 (gj_n (((i3 117) + ((i3 3) * x13)) + (i3 2)))).toInt64)), none, some (.int x13), some (.int ((i3 117) + ((i3 3) * x13)))] [] SI4 SJ4 (QL Q)) ∧ (¬ 0 < (lg_cmp ((SJ4 81 30) * x5) (x3 * (SJ4 81 31))) → gj_Goes E om0 mt_239 190 [some (.ref 81), some (.int x1), some (.int (x2 ||| ((i3 1) <<< (x13 &&& 31)))), some (.long x3), none, some (.long x5), none, some (.long (x7 + (SI 82 (gj_n ((i3 117) + ((i3 3) * x13)))).toInt64)), none, some (.long (x9 + (SI 82 (gj_n (((i3 117) + ((i3 3) * x13)) + (i3 1)))).toInt64)), none, some (.long (x11 + (SI 82 (gj_n (((i3 117) + ((i3 3) * x13)) + (i3 2)))).toInt64)), none, some (.int x13), some (.int ((i3 117) + ((i3 3) * x13)))] [] SI4 SJ4 (QL Q)))
      refine ⟨fun c11 => ?_, fun c11 => ?_⟩
      · refine gj_goq gj_clT ok_239 [9, 20, 22, 26, 31, 34, 37, 40, 43, 64, 77, 92, 107, 139, 152, 184, 190, 255] ?_
        show gj_Goes E om0 mt_239 184 [some (.ref 81), some (.int x1), some (.int (x2 ||| ((i3 1) <<< (x13 &&& 31)))), some (.long (SJ4 81 30)), none, some (.long x5), none, some (.long (x7 + (SI 82 (gj_n ((i3 117) + ((i3 3) * x13)))).toInt64)), none, some (.long (x9 + (SI 82 (gj_n (((i3 117) + ((i3 3) * x13)) + (i3 1)))).toInt64)), none, some (.long (x11 + (SI 82 (gj_n (((i3 117) + ((i3 3) * x13)) + (i3 2)))).toInt64)), none, some (.int x13), some (.int ((i3 117) + ((i3 3) * x13)))] [] SI4 SJ4 (QL Q)
        refine gj_goq gj_clT ok_239 [9, 20, 22, 26, 31, 34, 37, 40, 43, 64, 77, 92, 107, 139, 152, 184, 190, 255] ?_
        show gj_Goes E om0 mt_239 190 [some (.ref 81), some (.int x1), some (.int (x2 ||| ((i3 1) <<< (x13 &&& 31)))), some (.long (SJ4 81 30)), none, some (.long (SJ4 81 31)), none, some (.long (x7 + (SI 82 (gj_n ((i3 117) + ((i3 3) * x13)))).toInt64)), none, some (.long (x9 + (SI 82 (gj_n (((i3 117) + ((i3 3) * x13)) + (i3 1)))).toInt64)), none, some (.long (x11 + (SI 82 (gj_n (((i3 117) + ((i3 3) * x13)) + (i3 2)))).toInt64)), none, some (.int x13), some (.int ((i3 117) + ((i3 3) * x13)))] [] SI4 SJ4 (QL Q)
        refine gj_goq gj_clT ok_239 [9, 20, 22, 26, 31, 34, 37, 40, 43, 64, 77, 92, 107, 139, 152, 184, 190, 255] ?_
        show gj_Goes E om0 mt_239 43 [some (.ref 81), some (.int x1), some (.int (x2 ||| ((i3 1) <<< (x13 &&& 31)))), some (.long (SJ4 81 30)), none, some (.long (SJ4 81 31)), none, some (.long (x7 + (SI 82 (gj_n ((i3 117) + ((i3 3) * x13)))).toInt64)), none, some (.long (x9 + (SI 82 (gj_n (((i3 117) + ((i3 3) * x13)) + (i3 1)))).toInt64)), none, some (.long (x11 + (SI 82 (gj_n (((i3 117) + ((i3 3) * x13)) + (i3 2)))).toInt64)), none, some (.int (x13 + (i3 1))), some (.int ((i3 117) + ((i3 3) * x13)))] [] SI4 SJ4 (QL Q)
        exact gj_fh ((q9.1 c10).1 (lgc_le.mp c11)) (And.intro (Or.inr rfl) (And.intro (Or.inr rfl) (And.intro (Or.inr rfl) (And.intro (Or.inr rfl) (And.intro (Or.inl rfl) (And.intro (Or.inr rfl) (And.intro (Or.inl rfl) (And.intro (Or.inr rfl) (And.intro (Or.inl rfl) (And.intro (Or.inr rfl) (And.intro (Or.inl rfl) (And.intro (Or.inr rfl) (And.intro (Or.inl rfl) (And.intro (Or.inr rfl) (And.intro (Or.inl rfl) trivial)))))))))))))))
      · refine ⟨fun c12 => ?_, fun c12 => ?_⟩
        · refine gj_goq gj_clT ok_239 [9, 20, 22, 26, 31, 34, 37, 40, 43, 64, 77, 92, 107, 139, 152, 184, 190, 255] ?_
          show gj_Goes E om0 mt_239 184 [some (.ref 81), some (.int x1), some (.int (x2 ||| ((i3 1) <<< (x13 &&& 31)))), some (.long (SJ4 81 30)), none, some (.long x5), none, some (.long (x7 + (SI 82 (gj_n ((i3 117) + ((i3 3) * x13)))).toInt64)), none, some (.long (x9 + (SI 82 (gj_n (((i3 117) + ((i3 3) * x13)) + (i3 1)))).toInt64)), none, some (.long (x11 + (SI 82 (gj_n (((i3 117) + ((i3 3) * x13)) + (i3 2)))).toInt64)), none, some (.int x13), some (.int ((i3 117) + ((i3 3) * x13)))] [] SI4 SJ4 (QL Q)
          refine gj_goq gj_clT ok_239 [9, 20, 22, 26, 31, 34, 37, 40, 43, 64, 77, 92, 107, 139, 152, 184, 190, 255] ?_
          show gj_Goes E om0 mt_239 190 [some (.ref 81), some (.int x1), some (.int (x2 ||| ((i3 1) <<< (x13 &&& 31)))), some (.long (SJ4 81 30)), none, some (.long (SJ4 81 31)), none, some (.long (x7 + (SI 82 (gj_n ((i3 117) + ((i3 3) * x13)))).toInt64)), none, some (.long (x9 + (SI 82 (gj_n (((i3 117) + ((i3 3) * x13)) + (i3 1)))).toInt64)), none, some (.long (x11 + (SI 82 (gj_n (((i3 117) + ((i3 3) * x13)) + (i3 2)))).toInt64)), none, some (.int x13), some (.int ((i3 117) + ((i3 3) * x13)))] [] SI4 SJ4 (QL Q)
          refine gj_goq gj_clT ok_239 [9, 20, 22, 26, 31, 34, 37, 40, 43, 64, 77, 92, 107, 139, 152, 184, 190, 255] ?_
          show gj_Goes E om0 mt_239 43 [some (.ref 81), some (.int x1), some (.int (x2 ||| ((i3 1) <<< (x13 &&& 31)))), some (.long (SJ4 81 30)), none, some (.long (SJ4 81 31)), none, some (.long (x7 + (SI 82 (gj_n ((i3 117) + ((i3 3) * x13)))).toInt64)), none, some (.long (x9 + (SI 82 (gj_n (((i3 117) + ((i3 3) * x13)) + (i3 1)))).toInt64)), none, some (.long (x11 + (SI 82 (gj_n (((i3 117) + ((i3 3) * x13)) + (i3 2)))).toInt64)), none, some (.int (x13 + (i3 1))), some (.int ((i3 117) + ((i3 3) * x13)))] [] SI4 SJ4 (QL Q)
          exact gj_fh (((q9.1 c10).2 (fun z_ => c11 (lgc_le.mpr z_))).1 (lgc_gt.mp c12)) (And.intro (Or.inr rfl) (And.intro (Or.inr rfl) (And.intro (Or.inr rfl) (And.intro (Or.inr rfl) (And.intro (Or.inl rfl) (And.intro (Or.inr rfl) (And.intro (Or.inl rfl) (And.intro (Or.inr rfl) (And.intro (Or.inl rfl) (And.intro (Or.inr rfl) (And.intro (Or.inl rfl) (And.intro (Or.inr rfl) (And.intro (Or.inl rfl) (And.intro (Or.inr rfl) (And.intro (Or.inl rfl) trivial)))))))))))))))
        · refine gj_goq gj_clT ok_239 [9, 20, 22, 26, 31, 34, 37, 40, 43, 64, 77, 92, 107, 139, 152, 184, 190, 255] ?_
          show gj_Goes E om0 mt_239 43 [some (.ref 81), some (.int x1), some (.int (x2 ||| ((i3 1) <<< (x13 &&& 31)))), some (.long x3), none, some (.long x5), none, some (.long (x7 + (SI 82 (gj_n ((i3 117) + ((i3 3) * x13)))).toInt64)), none, some (.long (x9 + (SI 82 (gj_n (((i3 117) + ((i3 3) * x13)) + (i3 1)))).toInt64)), none, some (.long (x11 + (SI 82 (gj_n (((i3 117) + ((i3 3) * x13)) + (i3 2)))).toInt64)), none, some (.int (x13 + (i3 1))), some (.int ((i3 117) + ((i3 3) * x13)))] [] SI4 SJ4 (QL Q)
          exact gj_fh (((q9.1 c10).2 (fun z_ => c11 (lgc_le.mpr z_))).2 (fun z_ => c12 (lgc_gt.mpr z_))) (And.intro (Or.inr rfl) (And.intro (Or.inr rfl) (And.intro (Or.inr rfl) (And.intro (Or.inr rfl) (And.intro (Or.inl rfl) (And.intro (Or.inr rfl) (And.intro (Or.inl rfl) (And.intro (Or.inr rfl) (And.intro (Or.inl rfl) (And.intro (Or.inr rfl) (And.intro (Or.inl rfl) (And.intro (Or.inr rfl) (And.intro (Or.inl rfl) (And.intro (Or.inr rfl) (And.intro (Or.inl rfl) trivial)))))))))))))))
    · refine gj_goq gj_clT ok_239 [9, 20, 22, 26, 31, 34, 37, 40, 43, 64, 77, 92, 107, 139, 152, 184, 190, 255] ?_
      show gj_Goes E om0 mt_239 43 [some (.ref 81), some (.int x1), some (.int x2), some (.long x3), none, some (.long x5), none, some (.long (x7 + (SI 82 (gj_n ((i3 117) + ((i3 3) * x13)))).toInt64)), none, some (.long (x9 + (SI 82 (gj_n (((i3 117) + ((i3 3) * x13)) + (i3 1)))).toInt64)), none, some (.long (x11 + (SI 82 (gj_n (((i3 117) + ((i3 3) * x13)) + (i3 2)))).toInt64)), none, some (.int (x13 + (i3 1))), some (.int ((i3 117) + ((i3 3) * x13)))] [] SI4 SJ4 (QL Q)
      exact gj_fh (q9.2 c10) (And.intro (Or.inr rfl) (And.intro (Or.inr rfl) (And.intro (Or.inr rfl) (And.intro (Or.inr rfl) (And.intro (Or.inl rfl) (And.intro (Or.inr rfl) (And.intro (Or.inl rfl) (And.intro (Or.inr rfl) (And.intro (Or.inl rfl) (And.intro (Or.inr rfl) (And.intro (Or.inl rfl) (And.intro (Or.inr rfl) (And.intro (Or.inl rfl) (And.intro (Or.inr rfl) (And.intro (Or.inl rfl) trivial)))))))))))))))
set_option maxRecDepth 20000 in
/-- GraspJudgeModel.findsFree -/
theorem st_240 {E : gj_E} {Q : Int32 → gj_I → gj_J → Prop} (SI : gj_I) (SJ : gj_J) (h : DoV E 184 [(.ref 81)] SI SJ (fun SI2 SJ2 => DoI E 185 [(.ref 81)] SI2 SJ2 (fun r3 SI4 SJ4 => DoI E 193 [(.ref 81), (.int r3)] SI4 SJ4 (fun r5 SI6 SJ6 => ((i3 3) ≤ r5 → GoI E mt_240 27 [some (.ref 81), none, some (.int (i3 0)), none] SI6 SJ6 Q) ∧ (¬ (i3 3) ≤ r5 → DoV E 243 [(.ref 81), (.int r5)] SI6 SJ6 (fun SI8 SJ8 => Q (i3 1) SI8 SJ8)))))) : DoI E 240 [(.ref 81)] SI SJ Q := by
  refine gj_start (M := mt_240) ok_240 (Nat.le_of_ble_eq_true rfl) ?_
  refine gj_goq gj_clT ok_240 [4, 9, 12, 23, 27, 39, 53] ?_
  show gj_Do E om0 (gj_mt 184) [(.ref 81)] SI SJ _
  refine gj_Do.mono h (fun v_ SI2 SJ2 h_ => ?_)
  obtain ⟨rfl, q1⟩ := h_
  show gj_Goes E om0 mt_240 4 [some (.ref 81), none, none, none] [] SI2 SJ2 (QI Q)
  refine gj_goq gj_clT ok_240 [4, 9, 12, 23, 27, 39, 53] ?_
  show gj_Do E om0 (gj_mt 185) [(.ref 81)] SI2 SJ2 _
  refine gj_Do.mono q1 (fun v_ SI4 SJ4 h_ => ?_)
  obtain ⟨r3, rfl, q2⟩ := h_
  show gj_Goes E om0 mt_240 9 [some (.ref 81), none, none, none] [(.int r3), (.ref 81)] SI4 SJ4 (QI Q)
  refine gj_goq gj_clT ok_240 [4, 9, 12, 23, 27, 39, 53] ?_
  show gj_Do E om0 (gj_mt 193) [(.ref 81), (.int r3)] SI4 SJ4 _
  refine gj_Do.mono q2 (fun v_ SI6 SJ6 h_ => ?_)
  obtain ⟨r5, rfl, q3⟩ := h_
  show gj_Goes E om0 mt_240 12 [some (.ref 81), none, none, none] [(.int r5)] SI6 SJ6 (QI Q)
  refine gj_goq gj_clT ok_240 [4, 9, 12, 23, 27, 39, 53] ?_
  show ((i3 3) ≤ r5 → gj_Goes E om0 mt_240 25 [some (.ref 81), some (.int r5), none, none] [] SI6 SJ6 (QI Q)) ∧ (¬ (i3 3) ≤ r5 → gj_Do E om0 (gj_mt 243) [(.ref 81), (.int r5)] SI6 SJ6 _)
  refine ⟨fun c4 => ?_, fun c4 => ?_⟩
  · refine gj_goq gj_clT ok_240 [4, 9, 12, 23, 27, 39, 53] ?_
    show gj_Goes E om0 mt_240 27 [some (.ref 81), some (.int r5), some (.int (i3 0)), none] [] SI6 SJ6 (QI Q)
    exact gj_fh (q3.1 c4) (And.intro (Or.inr rfl) (And.intro (Or.inl rfl) (And.intro (Or.inr rfl) (And.intro (Or.inl rfl) trivial))))
  · refine gj_Do.mono (q3.2 c4) (fun v_ SI8 SJ8 h_ => ?_)
    obtain ⟨rfl, q5⟩ := h_
    show gj_Goes E om0 mt_240 23 [some (.ref 81), some (.int r5), none, none] [] SI8 SJ8 (QI Q)
    refine gj_goq gj_clT ok_240 [4, 9, 12, 23, 27, 39, 53] ?_
    show ((i3 1) = 0 ∨ (i3 1) = 1) ∧ (QI Q (some (.int (i3 1))) SI8 SJ8)
    refine ⟨(Or.inr rfl), ?_⟩
    exact ⟨_, rfl, q5⟩
set_option maxRecDepth 20000 in
theorem lp_240_27 {E : gj_E} {Q : Int32 → gj_I → gj_J → Prop} (x2 : Int32) (SI : gj_I) (SJ : gj_J) (h : ((SI 81 8) ≤ x2 → Q (i3 0) SI SJ) ∧ (¬ (SI 81 8) ≤ x2 → GoI E mt_240 39 [some (.ref 81), none, some (.int x2), some (.int (x2 + (i3 1)))] SI SJ Q)) : GoI E mt_240 27 [some (.ref 81), none, some (.int x2), none] SI SJ Q := by
  refine gj_goq gj_clT ok_240 [4, 9, 12, 23, 27, 39, 53] ?_
  show ((SI 81 8) ≤ x2 → gj_Goes E om0 mt_240 70 [some (.ref 81), none, some (.int x2), none] [] SI SJ (QI Q)) ∧ (¬ (SI 81 8) ≤ x2 → gj_Goes E om0 mt_240 39 [some (.ref 81), none, some (.int x2), some (.int (x2 + (i3 1)))] [] SI SJ (QI Q))
  refine ⟨fun c1 => ?_, fun c1 => ?_⟩
  · refine gj_goq gj_clT ok_240 [4, 9, 12, 23, 27, 39, 53] ?_
    show ((i3 0) = 0 ∨ (i3 0) = 1) ∧ (QI Q (some (.int (i3 0))) SI SJ)
    refine ⟨(Or.inl rfl), ?_⟩
    exact ⟨_, rfl, (h.1 c1)⟩
  · exact (h.2 c1)
set_option maxRecDepth 20000 in
theorem lp_240_39 {E : gj_E} {Q : Int32 → gj_I → gj_J → Prop} (x2 : Int32) (x3 : Int32) (SI : gj_I) (SJ : gj_J) (h : ((SI 81 8) ≤ x3 → GoI E mt_240 27 [some (.ref 81), none, some (.int (x2 + (i3 1))), none] SI SJ Q) ∧ (¬ (SI 81 8) ≤ x3 → DoI E 241 [(.ref 81), (.int x2), (.int x3)] SI SJ (fun r1 SI2 SJ2 => (r1 = 0 → GoI E mt_240 39 [some (.ref 81), none, some (.int x2), some (.int (x3 + (i3 1)))] SI2 SJ2 Q) ∧ (¬ r1 = 0 → Q (i3 1) SI2 SJ2)))) : GoI E mt_240 39 [some (.ref 81), none, some (.int x2), some (.int x3)] SI SJ Q := by
  refine gj_goq gj_clT ok_240 [4, 9, 12, 23, 27, 39, 53] ?_
  show ((SI 81 8) ≤ x3 → gj_Goes E om0 mt_240 64 [some (.ref 81), none, some (.int x2), some (.int x3)] [] SI SJ (QI Q)) ∧ (¬ (SI 81 8) ≤ x3 → gj_Do E om0 (gj_mt 241) [(.ref 81), (.int x2), (.int x3)] SI SJ _)
  refine ⟨fun c1 => ?_, fun c1 => ?_⟩
  · refine gj_goq gj_clT ok_240 [4, 9, 12, 23, 27, 39, 53] ?_
    show gj_Goes E om0 mt_240 27 [some (.ref 81), none, some (.int (x2 + (i3 1))), some (.int x3)] [] SI SJ (QI Q)
    exact gj_fh (h.1 c1) (And.intro (Or.inr rfl) (And.intro (Or.inl rfl) (And.intro (Or.inr rfl) (And.intro (Or.inl rfl) trivial))))
  · refine gj_Do.mono (h.2 c1) (fun v_ SI2 SJ2 h_ => ?_)
    obtain ⟨r1, rfl, q2⟩ := h_
    show gj_Goes E om0 mt_240 53 [some (.ref 81), none, some (.int x2), some (.int x3)] [(.int r1)] SI2 SJ2 (QI Q)
    refine gj_goq gj_clT ok_240 [4, 9, 12, 23, 27, 39, 53] ?_
    show (r1 = 0 → gj_Goes E om0 mt_240 58 [some (.ref 81), none, some (.int x2), some (.int x3)] [] SI2 SJ2 (QI Q)) ∧ (¬ r1 = 0 → ((i3 1) = 0 ∨ (i3 1) = 1) ∧ (QI Q (some (.int (i3 1))) SI2 SJ2))
    refine ⟨fun c3 => ?_, fun c3 => ?_⟩
    · refine gj_goq gj_clT ok_240 [4, 9, 12, 23, 27, 39, 53] ?_
      show gj_Goes E om0 mt_240 39 [some (.ref 81), none, some (.int x2), some (.int (x3 + (i3 1)))] [] SI2 SJ2 (QI Q)
      exact (q2.1 c3)
    · refine ⟨(Or.inr rfl), ?_⟩
      exact ⟨_, rfl, (q2.2 c3)⟩
set_option maxRecDepth 20000 in
/-- GraspJudgeModel.freesBy -/
theorem st_241 {E : gj_E} {Q : Int32 → gj_I → gj_J → Prop} (a1 : Int32) (a2 : Int32) (SI : gj_I) (SJ : gj_J) (h : DoV E 187 [(.ref 81), (.int a1), (.int a2)] SI SJ (fun SI2 SJ2 => DoI E 188 [(.ref 81)] SI2 SJ2 (fun r3 SI4 SJ4 => (r3 = 0 → DoV E 189 [(.ref 81)] SI4 SJ4 (fun SI6 SJ6 => DoI E 185 [(.ref 81)] SI6 SJ6 (fun r7 SI8 SJ8 => DoI E 192 [(.ref 81), (.int r7)] SI8 SJ8 (fun r9 SI10 SJ10 => (r9 = 0 → DoV E 190 [(.ref 81)] SI10 SJ10 (fun SI12 SJ12 => DoI E 185 [(.ref 81)] SI12 SJ12 (fun r13 SI14 SJ14 => DoI E 192 [(.ref 81), (.int r13)] SI14 SJ14 (fun r15 SI16 SJ16 => (r15 = 0 ∨ r15 = 1) ∧ (Q r15 SI16 SJ16))))) ∧ (¬ r9 = 0 → Q (i3 1) SI10 SJ10))))) ∧ (¬ r3 = 0 → Q (i3 0) SI4 SJ4)))) : DoI E 241 [(.ref 81), (.int a1), (.int a2)] SI SJ Q := by
  refine gj_start (M := mt_241) ok_241 (Nat.le_of_ble_eq_true rfl) ?_
  refine gj_goq gj_clT ok_241 [6, 10, 19, 24, 27, 36, 41, 44] ?_
  show gj_Do E om0 (gj_mt 187) [(.ref 81), (.int a1), (.int a2)] SI SJ _
  refine gj_Do.mono h (fun v_ SI2 SJ2 h_ => ?_)
  obtain ⟨rfl, q1⟩ := h_
  show gj_Goes E om0 mt_241 6 [some (.ref 81), some (.int a1), some (.int a2)] [] SI2 SJ2 (QI Q)
  refine gj_goq gj_clT ok_241 [6, 10, 19, 24, 27, 36, 41, 44] ?_
  show gj_Do E om0 (gj_mt 188) [(.ref 81)] SI2 SJ2 _
  refine gj_Do.mono q1 (fun v_ SI4 SJ4 h_ => ?_)
  obtain ⟨r3, rfl, q2⟩ := h_
  show gj_Goes E om0 mt_241 10 [some (.ref 81), some (.int a1), some (.int a2)] [(.int r3)] SI4 SJ4 (QI Q)
  refine gj_goq gj_clT ok_241 [6, 10, 19, 24, 27, 36, 41, 44] ?_
  show (r3 = 0 → gj_Goes E om0 mt_241 15 [some (.ref 81), some (.int a1), some (.int a2)] [] SI4 SJ4 (QI Q)) ∧ (¬ r3 = 0 → ((i3 0) = 0 ∨ (i3 0) = 1) ∧ (QI Q (some (.int (i3 0))) SI4 SJ4))
  refine ⟨fun c3 => ?_, fun c3 => ?_⟩
  · refine gj_goq gj_clT ok_241 [6, 10, 19, 24, 27, 36, 41, 44] ?_
    show gj_Do E om0 (gj_mt 189) [(.ref 81)] SI4 SJ4 _
    refine gj_Do.mono (q2.1 c3) (fun v_ SI6 SJ6 h_ => ?_)
    obtain ⟨rfl, q4⟩ := h_
    show gj_Goes E om0 mt_241 19 [some (.ref 81), some (.int a1), some (.int a2)] [] SI6 SJ6 (QI Q)
    refine gj_goq gj_clT ok_241 [6, 10, 19, 24, 27, 36, 41, 44] ?_
    show gj_Do E om0 (gj_mt 185) [(.ref 81)] SI6 SJ6 _
    refine gj_Do.mono q4 (fun v_ SI8 SJ8 h_ => ?_)
    obtain ⟨r7, rfl, q5⟩ := h_
    show gj_Goes E om0 mt_241 24 [some (.ref 81), some (.int a1), some (.int a2)] [(.int r7), (.ref 81)] SI8 SJ8 (QI Q)
    refine gj_goq gj_clT ok_241 [6, 10, 19, 24, 27, 36, 41, 44] ?_
    show gj_Do E om0 (gj_mt 192) [(.ref 81), (.int r7)] SI8 SJ8 _
    refine gj_Do.mono q5 (fun v_ SI10 SJ10 h_ => ?_)
    obtain ⟨r9, rfl, q6⟩ := h_
    show gj_Goes E om0 mt_241 27 [some (.ref 81), some (.int a1), some (.int a2)] [(.int r9)] SI10 SJ10 (QI Q)
    refine gj_goq gj_clT ok_241 [6, 10, 19, 24, 27, 36, 41, 44] ?_
    show (r9 = 0 → gj_Goes E om0 mt_241 32 [some (.ref 81), some (.int a1), some (.int a2)] [] SI10 SJ10 (QI Q)) ∧ (¬ r9 = 0 → ((i3 1) = 0 ∨ (i3 1) = 1) ∧ (QI Q (some (.int (i3 1))) SI10 SJ10))
    refine ⟨fun c7 => ?_, fun c7 => ?_⟩
    · refine gj_goq gj_clT ok_241 [6, 10, 19, 24, 27, 36, 41, 44] ?_
      show gj_Do E om0 (gj_mt 190) [(.ref 81)] SI10 SJ10 _
      refine gj_Do.mono (q6.1 c7) (fun v_ SI12 SJ12 h_ => ?_)
      obtain ⟨rfl, q8⟩ := h_
      show gj_Goes E om0 mt_241 36 [some (.ref 81), some (.int a1), some (.int a2)] [] SI12 SJ12 (QI Q)
      refine gj_goq gj_clT ok_241 [6, 10, 19, 24, 27, 36, 41, 44] ?_
      show gj_Do E om0 (gj_mt 185) [(.ref 81)] SI12 SJ12 _
      refine gj_Do.mono q8 (fun v_ SI14 SJ14 h_ => ?_)
      obtain ⟨r13, rfl, q9⟩ := h_
      show gj_Goes E om0 mt_241 41 [some (.ref 81), some (.int a1), some (.int a2)] [(.int r13), (.ref 81)] SI14 SJ14 (QI Q)
      refine gj_goq gj_clT ok_241 [6, 10, 19, 24, 27, 36, 41, 44] ?_
      show gj_Do E om0 (gj_mt 192) [(.ref 81), (.int r13)] SI14 SJ14 _
      refine gj_Do.mono q9 (fun v_ SI16 SJ16 h_ => ?_)
      obtain ⟨r15, rfl, q10⟩ := h_
      show gj_Goes E om0 mt_241 44 [some (.ref 81), some (.int a1), some (.int a2)] [(.int r15)] SI16 SJ16 (QI Q)
      refine gj_goq gj_clT ok_241 [6, 10, 19, 24, 27, 36, 41, 44] ?_
      show (r15 = 0 ∨ r15 = 1) ∧ (QI Q (some (.int r15)) SI16 SJ16)
      have k11 := q10.1
      refine ⟨k11, ?_⟩
      exact ⟨_, rfl, q10.2⟩
    · refine ⟨(Or.inr rfl), ?_⟩
      exact ⟨_, rfl, (q6.2 c7)⟩
  · refine ⟨(Or.inl rfl), ?_⟩
    exact ⟨_, rfl, (q2.2 c3)⟩
set_option maxRecDepth 20000 in
/-- GraspJudgeModel.isAcross -/
theorem st_242 {E : gj_E} {Q : Int32 → gj_I → gj_J → Prop} (SI : gj_I) (SJ : gj_J) (h : GoI E mt_242 2 [some (.ref 81), some (.int (i3 0))] SI SJ Q) : DoI E 242 [(.ref 81)] SI SJ Q := by
  refine gj_start (M := mt_242) ok_242 (Nat.le_of_ble_eq_true rfl) ?_
  refine gj_goq gj_clT ok_242 [2, 15] ?_
  show gj_Goes E om0 mt_242 2 [some (.ref 81), some (.int (i3 0))] [] SI SJ (QI Q)
  exact h
set_option maxRecDepth 20000 in
theorem lp_242_2 {E : gj_E} {Q : Int32 → gj_I → gj_J → Prop} (x1 : Int32) (SI : gj_I) (SJ : gj_J) (h : ((SI 81 8) ≤ x1 → Q (i3 1) SI SJ) ∧ (¬ (SI 81 8) ≤ x1 → DoL E 191 [(.ref 81), (.int x1)] SI SJ (fun r1 SI2 SJ2 => (r1 = (i6 0) → GoI E mt_242 2 [some (.ref 81), some (.int (x1 + (i3 1)))] SI2 SJ2 Q) ∧ (¬ r1 = (i6 0) → Q (i3 0) SI2 SJ2)))) : GoI E mt_242 2 [some (.ref 81), some (.int x1)] SI SJ Q := by
  refine gj_goq gj_clT ok_242 [2, 15] ?_
  show ((SI 81 8) ≤ x1 → gj_Goes E om0 mt_242 28 [some (.ref 81), some (.int x1)] [] SI SJ (QI Q)) ∧ (¬ (SI 81 8) ≤ x1 → gj_Do E om0 (gj_mt 191) [(.ref 81), (.int x1)] SI SJ _)
  refine ⟨fun c1 => ?_, fun c1 => ?_⟩
  · refine gj_goq gj_clT ok_242 [2, 15] ?_
    show ((i3 1) = 0 ∨ (i3 1) = 1) ∧ (QI Q (some (.int (i3 1))) SI SJ)
    refine ⟨(Or.inr rfl), ?_⟩
    exact ⟨_, rfl, (h.1 c1)⟩
  · refine gj_Do.mono (h.2 c1) (fun v_ SI2 SJ2 h_ => ?_)
    obtain ⟨r1, rfl, q2⟩ := h_
    show gj_Goes E om0 mt_242 15 [some (.ref 81), some (.int x1)] [(.long r1)] SI2 SJ2 (QI Q)
    refine gj_goq gj_clT ok_242 [2, 15] ?_
    show ((lg_cmp r1 (i6 0)) = 0 → gj_Goes E om0 mt_242 22 [some (.ref 81), some (.int x1)] [] SI2 SJ2 (QI Q)) ∧ (¬ (lg_cmp r1 (i6 0)) = 0 → ((i3 0) = 0 ∨ (i3 0) = 1) ∧ (QI Q (some (.int (i3 0))) SI2 SJ2))
    refine ⟨fun c3 => ?_, fun c3 => ?_⟩
    · refine gj_goq gj_clT ok_242 [2, 15] ?_
      show gj_Goes E om0 mt_242 2 [some (.ref 81), some (.int (x1 + (i3 1)))] [] SI2 SJ2 (QI Q)
      exact (q2.1 (lgc_eq.mp c3))
    · refine ⟨(Or.inl rfl), ?_⟩
      exact ⟨_, rfl, (q2.2 (fun z_ => c3 (lgc_eq.mpr z_)))⟩
set_option maxRecDepth 20000 in
/-- GraspJudgeModel.findsAcross -/
theorem st_243 {E : gj_E} {Q : gj_I → gj_J → Prop} (a1 : Int32) (SI : gj_I) (SJ : gj_J) (h : DoI E 242 [(.ref 81)] SI (gj_w2 (gj_w2 (gj_w2 SJ 81 9 (i6 1)) 81 10 (i6 0)) 81 11 (i6 0)) (fun r1 SI2 SJ2 => (r1 = 0 → (¬ a1 = (i3 2) → DoV E 189 [(.ref 81)] SI2 (gj_w2 (gj_w2 SJ2 81 9 (-(SJ2 86 0))) 81 10 (SJ2 85 0)) (fun SI4 SJ4 => ((SJ4 81 11) = (i6 0) → ((SJ4 81 10) = (i6 0) → ((SJ4 81 9) ≥ (i6 0) → Q SI4 SJ4) ∧ (¬ (SJ4 81 9) ≥ (i6 0) → DoV E 190 [(.ref 81)] SI4 SJ4 (fun SI6 SJ6 => Q SI6 SJ6))) ∧ (¬ (SJ4 81 10) = (i6 0) → ((SJ4 81 10) ≥ (i6 0) → Q SI4 SJ4) ∧ (¬ (SJ4 81 10) ≥ (i6 0) → DoV E 190 [(.ref 81)] SI4 SJ4 (fun SI8 SJ8 => Q SI8 SJ8)))) ∧ (¬ (SJ4 81 11) = (i6 0) → ((SJ4 81 11) ≥ (i6 0) → Q SI4 SJ4) ∧ (¬ (SJ4 81 11) ≥ (i6 0) → DoV E 190 [(.ref 81)] SI4 SJ4 (fun SI10 SJ10 => Q SI10 SJ10))))) ∧ (a1 = (i3 2) → DoV E 244 [(.ref 81)] SI2 SJ2 (fun SI12 SJ12 => DoV E 189 [(.ref 81)] SI12 SJ12 (fun SI14 SJ14 => ((SJ14 81 11) = (i6 0) → ((SJ14 81 10) = (i6 0) → ((SJ14 81 9) ≥ (i6 0) → Q SI14 SJ14) ∧ (¬ (SJ14 81 9) ≥ (i6 0) → DoV E 190 [(.ref 81)] SI14 SJ14 (fun SI16 SJ16 => Q SI16 SJ16))) ∧ (¬ (SJ14 81 10) = (i6 0) → ((SJ14 81 10) ≥ (i6 0) → Q SI14 SJ14) ∧ (¬ (SJ14 81 10) ≥ (i6 0) → DoV E 190 [(.ref 81)] SI14 SJ14 (fun SI18 SJ18 => Q SI18 SJ18)))) ∧ (¬ (SJ14 81 11) = (i6 0) → ((SJ14 81 11) ≥ (i6 0) → Q SI14 SJ14) ∧ (¬ (SJ14 81 11) ≥ (i6 0) → DoV E 190 [(.ref 81)] SI14 SJ14 (fun SI20 SJ20 => Q SI20 SJ20))))))) ∧ (¬ r1 = 0 → Q SI2 SJ2))) : DoV E 243 [(.ref 81), (.int a1)] SI SJ Q := by
  refine gj_start (M := mt_243) ok_243 (Nat.le_of_ble_eq_true rfl) ?_
  refine gj_goq gj_clT ok_243 [19, 32, 60, 115] ?_
  show gj_Do E om0 (gj_mt 242) [(.ref 81)] SI (gj_w2 (gj_w2 (gj_w2 SJ 81 9 (i6 1)) 81 10 (i6 0)) 81 11 (i6 0)) _
  refine gj_Do.mono h (fun v_ SI2 SJ2 h_ => ?_)
  obtain ⟨r1, rfl, q1⟩ := h_
  show gj_Goes E om0 mt_243 19 [some (.ref 81), some (.int a1)] [(.int r1)] SI2 SJ2 (QV Q)
  refine gj_goq gj_clT ok_243 [19, 32, 60, 115] ?_
  show (r1 = 0 → gj_Goes E om0 mt_243 23 [some (.ref 81), some (.int a1)] [] SI2 SJ2 (QV Q)) ∧ (¬ r1 = 0 → QV Q none SI2 SJ2)
  refine ⟨fun c2 => ?_, fun c2 => ?_⟩
  · refine gj_goq gj_clT ok_243 [19, 32, 60, 115] ?_
    show (¬ a1 = (i3 2) → gj_Goes E om0 mt_243 35 [some (.ref 81), some (.int a1)] [] SI2 SJ2 (QV Q)) ∧ (a1 = (i3 2) → gj_Do E om0 (gj_mt 244) [(.ref 81)] SI2 SJ2 _)
    refine ⟨fun c3 => ?_, fun c3 => ?_⟩
    · refine gj_goq gj_clT ok_243 [19, 32, 60, 115] ?_
      show vp_in (i3 0) 16 ∧ (vp_in (i3 0) 16 ∧ (gj_Do E om0 (gj_mt 189) [(.ref 81)] SI2 (gj_w2 (gj_w2 SJ2 81 9 (-(SJ2 86 0))) 81 10 (SJ2 85 0)) _))
      refine ⟨(gj_vin (by decide)), ?_⟩
      refine ⟨(gj_vin (by decide)), ?_⟩
      refine gj_Do.mono ((q1.1 c2).1 c3) (fun v_ SI4 SJ4 h_ => ?_)
      obtain ⟨rfl, q4⟩ := h_
      show gj_Goes E om0 mt_243 60 [some (.ref 81), some (.int a1)] [] SI4 SJ4 (QV Q)
      refine gj_goq gj_clT ok_243 [19, 32, 60, 115] ?_
      show ((lg_cmp (SJ4 81 11) (i6 0)) = 0 → gj_Goes E om0 mt_243 81 [some (.ref 81), some (.int a1)] [] SI4 SJ4 (QV Q)) ∧ (¬ (lg_cmp (SJ4 81 11) (i6 0)) = 0 → (0 ≤ (lg_cmp (SJ4 81 11) (i6 0)) → gj_Goes E om0 mt_243 115 [some (.ref 81), some (.int a1)] [] SI4 SJ4 (QV Q)) ∧ (¬ 0 ≤ (lg_cmp (SJ4 81 11) (i6 0)) → gj_Goes E om0 mt_243 111 [some (.ref 81), some (.int a1)] [] SI4 SJ4 (QV Q)))
      refine ⟨fun c5 => ?_, fun c5 => ?_⟩
      · refine gj_goq gj_clT ok_243 [19, 32, 60, 115] ?_
        show ((lg_cmp (SJ4 81 10) (i6 0)) = 0 → gj_Goes E om0 mt_243 102 [some (.ref 81), some (.int a1)] [] SI4 SJ4 (QV Q)) ∧ (¬ (lg_cmp (SJ4 81 10) (i6 0)) = 0 → (0 ≤ (lg_cmp (SJ4 81 10) (i6 0)) → gj_Goes E om0 mt_243 115 [some (.ref 81), some (.int a1)] [] SI4 SJ4 (QV Q)) ∧ (¬ 0 ≤ (lg_cmp (SJ4 81 10) (i6 0)) → gj_Goes E om0 mt_243 111 [some (.ref 81), some (.int a1)] [] SI4 SJ4 (QV Q)))
        refine ⟨fun c6 => ?_, fun c6 => ?_⟩
        · refine gj_goq gj_clT ok_243 [19, 32, 60, 115] ?_
          show (0 ≤ (lg_cmp (SJ4 81 9) (i6 0)) → gj_Goes E om0 mt_243 115 [some (.ref 81), some (.int a1)] [] SI4 SJ4 (QV Q)) ∧ (¬ 0 ≤ (lg_cmp (SJ4 81 9) (i6 0)) → gj_Do E om0 (gj_mt 190) [(.ref 81)] SI4 SJ4 _)
          refine ⟨fun c7 => ?_, fun c7 => ?_⟩
          · refine gj_goq gj_clT ok_243 [19, 32, 60, 115] ?_
            show QV Q none SI4 SJ4
            exact ⟨rfl, (((q4.1 (lgc_eq.mp c5)).1 (lgc_eq.mp c6)).1 (lgc_ge.mp c7))⟩
          · refine gj_Do.mono (((q4.1 (lgc_eq.mp c5)).1 (lgc_eq.mp c6)).2 (fun z_ => c7 (lgc_ge.mpr z_))) (fun v_ SI6 SJ6 h_ => ?_)
            obtain ⟨rfl, q8⟩ := h_
            show gj_Goes E om0 mt_243 115 [some (.ref 81), some (.int a1)] [] SI6 SJ6 (QV Q)
            refine gj_goq gj_clT ok_243 [19, 32, 60, 115] ?_
            show QV Q none SI6 SJ6
            exact ⟨rfl, q8⟩
        · refine ⟨fun c9 => ?_, fun c9 => ?_⟩
          · refine gj_goq gj_clT ok_243 [19, 32, 60, 115] ?_
            show QV Q none SI4 SJ4
            exact ⟨rfl, (((q4.1 (lgc_eq.mp c5)).2 (fun z_ => c6 (lgc_eq.mpr z_))).1 (lgc_ge.mp c9))⟩
          · refine gj_goq gj_clT ok_243 [19, 32, 60, 115] ?_
            show gj_Do E om0 (gj_mt 190) [(.ref 81)] SI4 SJ4 _
            refine gj_Do.mono (((q4.1 (lgc_eq.mp c5)).2 (fun z_ => c6 (lgc_eq.mpr z_))).2 (fun z_ => c9 (lgc_ge.mpr z_))) (fun v_ SI8 SJ8 h_ => ?_)
            obtain ⟨rfl, q10⟩ := h_
            show gj_Goes E om0 mt_243 115 [some (.ref 81), some (.int a1)] [] SI8 SJ8 (QV Q)
            refine gj_goq gj_clT ok_243 [19, 32, 60, 115] ?_
            show QV Q none SI8 SJ8
            exact ⟨rfl, q10⟩
      · refine ⟨fun c11 => ?_, fun c11 => ?_⟩
        · refine gj_goq gj_clT ok_243 [19, 32, 60, 115] ?_
          show QV Q none SI4 SJ4
          exact ⟨rfl, ((q4.2 (fun z_ => c5 (lgc_eq.mpr z_))).1 (lgc_ge.mp c11))⟩
        · refine gj_goq gj_clT ok_243 [19, 32, 60, 115] ?_
          show gj_Do E om0 (gj_mt 190) [(.ref 81)] SI4 SJ4 _
          refine gj_Do.mono ((q4.2 (fun z_ => c5 (lgc_eq.mpr z_))).2 (fun z_ => c11 (lgc_ge.mpr z_))) (fun v_ SI10 SJ10 h_ => ?_)
          obtain ⟨rfl, q12⟩ := h_
          show gj_Goes E om0 mt_243 115 [some (.ref 81), some (.int a1)] [] SI10 SJ10 (QV Q)
          refine gj_goq gj_clT ok_243 [19, 32, 60, 115] ?_
          show QV Q none SI10 SJ10
          exact ⟨rfl, q12⟩
    · refine gj_Do.mono ((q1.1 c2).2 c3) (fun v_ SI12 SJ12 h_ => ?_)
      obtain ⟨rfl, q13⟩ := h_
      show gj_Goes E om0 mt_243 32 [some (.ref 81), some (.int a1)] [] SI12 SJ12 (QV Q)
      refine gj_goq gj_clT ok_243 [19, 32, 60, 115] ?_
      show gj_Goes E om0 mt_243 56 [some (.ref 81), some (.int a1)] [] SI12 SJ12 (QV Q)
      refine gj_goq gj_clT ok_243 [19, 32, 60, 115] ?_
      show gj_Do E om0 (gj_mt 189) [(.ref 81)] SI12 SJ12 _
      refine gj_Do.mono q13 (fun v_ SI14 SJ14 h_ => ?_)
      obtain ⟨rfl, q14⟩ := h_
      show gj_Goes E om0 mt_243 60 [some (.ref 81), some (.int a1)] [] SI14 SJ14 (QV Q)
      refine gj_goq gj_clT ok_243 [19, 32, 60, 115] ?_
      show ((lg_cmp (SJ14 81 11) (i6 0)) = 0 → gj_Goes E om0 mt_243 81 [some (.ref 81), some (.int a1)] [] SI14 SJ14 (QV Q)) ∧ (¬ (lg_cmp (SJ14 81 11) (i6 0)) = 0 → (0 ≤ (lg_cmp (SJ14 81 11) (i6 0)) → gj_Goes E om0 mt_243 115 [some (.ref 81), some (.int a1)] [] SI14 SJ14 (QV Q)) ∧ (¬ 0 ≤ (lg_cmp (SJ14 81 11) (i6 0)) → gj_Goes E om0 mt_243 111 [some (.ref 81), some (.int a1)] [] SI14 SJ14 (QV Q)))
      refine ⟨fun c15 => ?_, fun c15 => ?_⟩
      · refine gj_goq gj_clT ok_243 [19, 32, 60, 115] ?_
        show ((lg_cmp (SJ14 81 10) (i6 0)) = 0 → gj_Goes E om0 mt_243 102 [some (.ref 81), some (.int a1)] [] SI14 SJ14 (QV Q)) ∧ (¬ (lg_cmp (SJ14 81 10) (i6 0)) = 0 → (0 ≤ (lg_cmp (SJ14 81 10) (i6 0)) → gj_Goes E om0 mt_243 115 [some (.ref 81), some (.int a1)] [] SI14 SJ14 (QV Q)) ∧ (¬ 0 ≤ (lg_cmp (SJ14 81 10) (i6 0)) → gj_Goes E om0 mt_243 111 [some (.ref 81), some (.int a1)] [] SI14 SJ14 (QV Q)))
        refine ⟨fun c16 => ?_, fun c16 => ?_⟩
        · refine gj_goq gj_clT ok_243 [19, 32, 60, 115] ?_
          show (0 ≤ (lg_cmp (SJ14 81 9) (i6 0)) → gj_Goes E om0 mt_243 115 [some (.ref 81), some (.int a1)] [] SI14 SJ14 (QV Q)) ∧ (¬ 0 ≤ (lg_cmp (SJ14 81 9) (i6 0)) → gj_Do E om0 (gj_mt 190) [(.ref 81)] SI14 SJ14 _)
          refine ⟨fun c17 => ?_, fun c17 => ?_⟩
          · refine gj_goq gj_clT ok_243 [19, 32, 60, 115] ?_
            show QV Q none SI14 SJ14
            exact ⟨rfl, (((q14.1 (lgc_eq.mp c15)).1 (lgc_eq.mp c16)).1 (lgc_ge.mp c17))⟩
          · refine gj_Do.mono (((q14.1 (lgc_eq.mp c15)).1 (lgc_eq.mp c16)).2 (fun z_ => c17 (lgc_ge.mpr z_))) (fun v_ SI16 SJ16 h_ => ?_)
            obtain ⟨rfl, q18⟩ := h_
            show gj_Goes E om0 mt_243 115 [some (.ref 81), some (.int a1)] [] SI16 SJ16 (QV Q)
            refine gj_goq gj_clT ok_243 [19, 32, 60, 115] ?_
            show QV Q none SI16 SJ16
            exact ⟨rfl, q18⟩
        · refine ⟨fun c19 => ?_, fun c19 => ?_⟩
          · refine gj_goq gj_clT ok_243 [19, 32, 60, 115] ?_
            show QV Q none SI14 SJ14
            exact ⟨rfl, (((q14.1 (lgc_eq.mp c15)).2 (fun z_ => c16 (lgc_eq.mpr z_))).1 (lgc_ge.mp c19))⟩
          · refine gj_goq gj_clT ok_243 [19, 32, 60, 115] ?_
            show gj_Do E om0 (gj_mt 190) [(.ref 81)] SI14 SJ14 _
            refine gj_Do.mono (((q14.1 (lgc_eq.mp c15)).2 (fun z_ => c16 (lgc_eq.mpr z_))).2 (fun z_ => c19 (lgc_ge.mpr z_))) (fun v_ SI18 SJ18 h_ => ?_)
            obtain ⟨rfl, q20⟩ := h_
            show gj_Goes E om0 mt_243 115 [some (.ref 81), some (.int a1)] [] SI18 SJ18 (QV Q)
            refine gj_goq gj_clT ok_243 [19, 32, 60, 115] ?_
            show QV Q none SI18 SJ18
            exact ⟨rfl, q20⟩
      · refine ⟨fun c21 => ?_, fun c21 => ?_⟩
        · refine gj_goq gj_clT ok_243 [19, 32, 60, 115] ?_
          show QV Q none SI14 SJ14
          exact ⟨rfl, ((q14.2 (fun z_ => c15 (lgc_eq.mpr z_))).1 (lgc_ge.mp c21))⟩
        · refine gj_goq gj_clT ok_243 [19, 32, 60, 115] ?_
          show gj_Do E om0 (gj_mt 190) [(.ref 81)] SI14 SJ14 _
          refine gj_Do.mono ((q14.2 (fun z_ => c15 (lgc_eq.mpr z_))).2 (fun z_ => c21 (lgc_ge.mpr z_))) (fun v_ SI20 SJ20 h_ => ?_)
          obtain ⟨rfl, q22⟩ := h_
          show gj_Goes E om0 mt_243 115 [some (.ref 81), some (.int a1)] [] SI20 SJ20 (QV Q)
          refine gj_goq gj_clT ok_243 [19, 32, 60, 115] ?_
          show QV Q none SI20 SJ20
          exact ⟨rfl, q22⟩
  · exact ⟨rfl, (q1.2 c2)⟩
set_option maxRecDepth 20000 in
/-- GraspJudgeModel.crossesAny -/
theorem st_244 {E : gj_E} {Q : gj_I → gj_J → Prop} (SI : gj_I) (SJ : gj_J) (h : GoV E mt_244 2 [some (.ref 81), some (.int (i3 0)), none] SI SJ Q) : DoV E 244 [(.ref 81)] SI SJ Q := by
  refine gj_start (M := mt_244) ok_244 (Nat.le_of_ble_eq_true rfl) ?_
  refine gj_goq gj_clT ok_244 [2, 14, 28, 32] ?_
  show gj_Goes E om0 mt_244 2 [some (.ref 81), some (.int (i3 0)), none] [] SI SJ (QV Q)
  exact h
set_option maxRecDepth 20000 in
theorem lp_244_2 {E : gj_E} {Q : gj_I → gj_J → Prop} (x1 : Int32) (SI : gj_I) (SJ : gj_J) (h : ((SI 81 8) ≤ x1 → Q SI SJ) ∧ (¬ (SI 81 8) ≤ x1 → GoV E mt_244 14 [some (.ref 81), some (.int x1), some (.int (x1 + (i3 1)))] SI SJ Q)) : GoV E mt_244 2 [some (.ref 81), some (.int x1), none] SI SJ Q := by
  refine gj_goq gj_clT ok_244 [2, 14, 28, 32] ?_
  show ((SI 81 8) ≤ x1 → gj_Goes E om0 mt_244 48 [some (.ref 81), some (.int x1), none] [] SI SJ (QV Q)) ∧ (¬ (SI 81 8) ≤ x1 → gj_Goes E om0 mt_244 14 [some (.ref 81), some (.int x1), some (.int (x1 + (i3 1)))] [] SI SJ (QV Q))
  refine ⟨fun c1 => ?_, fun c1 => ?_⟩
  · refine gj_goq gj_clT ok_244 [2, 14, 28, 32] ?_
    show QV Q none SI SJ
    exact ⟨rfl, (h.1 c1)⟩
  · exact (h.2 c1)
set_option maxRecDepth 20000 in
theorem lp_244_14 {E : gj_E} {Q : gj_I → gj_J → Prop} (x1 : Int32) (x2 : Int32) (SI : gj_I) (SJ : gj_J) (h : ((SI 81 8) ≤ x2 → GoV E mt_244 2 [some (.ref 81), some (.int (x1 + (i3 1))), none] SI SJ Q) ∧ (¬ (SI 81 8) ≤ x2 → DoV E 187 [(.ref 81), (.int x1), (.int x2)] SI SJ (fun SI2 SJ2 => DoI E 188 [(.ref 81)] SI2 SJ2 (fun r3 SI4 SJ4 => (¬ r3 = 0 → GoV E mt_244 14 [some (.ref 81), some (.int x1), some (.int (x2 + (i3 1)))] SI4 SJ4 Q) ∧ (r3 = 0 → Q SI4 SJ4))))) : GoV E mt_244 14 [some (.ref 81), some (.int x1), some (.int x2)] SI SJ Q := by
  refine gj_goq gj_clT ok_244 [2, 14, 28, 32] ?_
  show ((SI 81 8) ≤ x2 → gj_Goes E om0 mt_244 42 [some (.ref 81), some (.int x1), some (.int x2)] [] SI SJ (QV Q)) ∧ (¬ (SI 81 8) ≤ x2 → gj_Do E om0 (gj_mt 187) [(.ref 81), (.int x1), (.int x2)] SI SJ _)
  refine ⟨fun c1 => ?_, fun c1 => ?_⟩
  · refine gj_goq gj_clT ok_244 [2, 14, 28, 32] ?_
    show gj_Goes E om0 mt_244 2 [some (.ref 81), some (.int (x1 + (i3 1))), some (.int x2)] [] SI SJ (QV Q)
    exact gj_fh (h.1 c1) (And.intro (Or.inr rfl) (And.intro (Or.inr rfl) (And.intro (Or.inl rfl) trivial)))
  · refine gj_Do.mono (h.2 c1) (fun v_ SI2 SJ2 h_ => ?_)
    obtain ⟨rfl, q2⟩ := h_
    show gj_Goes E om0 mt_244 28 [some (.ref 81), some (.int x1), some (.int x2)] [] SI2 SJ2 (QV Q)
    refine gj_goq gj_clT ok_244 [2, 14, 28, 32] ?_
    show gj_Do E om0 (gj_mt 188) [(.ref 81)] SI2 SJ2 _
    refine gj_Do.mono q2 (fun v_ SI4 SJ4 h_ => ?_)
    obtain ⟨r3, rfl, q3⟩ := h_
    show gj_Goes E om0 mt_244 32 [some (.ref 81), some (.int x1), some (.int x2)] [(.int r3)] SI4 SJ4 (QV Q)
    refine gj_goq gj_clT ok_244 [2, 14, 28, 32] ?_
    show (¬ r3 = 0 → gj_Goes E om0 mt_244 36 [some (.ref 81), some (.int x1), some (.int x2)] [] SI4 SJ4 (QV Q)) ∧ (r3 = 0 → QV Q none SI4 SJ4)
    refine ⟨fun c4 => ?_, fun c4 => ?_⟩
    · refine gj_goq gj_clT ok_244 [2, 14, 28, 32] ?_
      show gj_Goes E om0 mt_244 14 [some (.ref 81), some (.int x1), some (.int (x2 + (i3 1)))] [] SI4 SJ4 (QV Q)
      exact (q3.1 c4)
    · exact ⟨rfl, (q3.2 c4)⟩
set_option maxRecDepth 20000 in
/-- GraspJudgeModel.free -/
theorem st_245 {E : gj_E} {Q : Int64 → gj_I → gj_J → Prop} (a1 : Int32) (SI : gj_I) (SJ : gj_J) (h : DoI E 155 [(.long (a1).toInt64), (.long (i6 0)), (.long (i6 2))] SI SJ (fun r1 SI2 SJ2 => (r1 = 0 → Q (i6 (-9000000000000000000)) SI2 SJ2) ∧ (¬ r1 = 0 → DoI E 240 [(.ref 81)] SI2 SJ2 (fun r3 SI4 SJ4 => (¬ r3 = 0 → (¬ a1 = 0 → (¬ a1 = (i3 1) → Q (SJ4 81 11) SI4 SJ4) ∧ (a1 = (i3 1) → Q (SJ4 81 10) SI4 SJ4)) ∧ (a1 = 0 → Q (SJ4 81 9) SI4 SJ4)) ∧ (r3 = 0 → Q (i6 (-9000000000000000000)) SI4 SJ4))))) : DoL E 245 [(.ref 81), (.int a1)] SI SJ Q := by
  refine gj_start (M := mt_245) ok_245 (Nat.le_of_ble_eq_true rfl) ?_
  refine gj_goq gj_clT ok_245 [9, 16] ?_
  show gj_Do E om0 (gj_mt 155) [(.long (a1).toInt64), (.long (i6 0)), (.long (i6 2))] SI SJ _
  refine gj_Do.mono h (fun v_ SI2 SJ2 h_ => ?_)
  obtain ⟨r1, rfl, q1⟩ := h_
  show gj_Goes E om0 mt_245 9 [some (.ref 81), some (.int a1)] [(.int r1)] SI2 SJ2 (QL Q)
  refine gj_goq gj_clT ok_245 [9, 16] ?_
  show (r1 = 0 → gj_Goes E om0 mt_245 19 [some (.ref 81), some (.int a1)] [] SI2 SJ2 (QL Q)) ∧ (¬ r1 = 0 → gj_Do E om0 (gj_mt 240) [(.ref 81)] SI2 SJ2 _)
  refine ⟨fun c2 => ?_, fun c2 => ?_⟩
  · refine gj_goq gj_clT ok_245 [9, 16] ?_
    show QL Q (some (.long (i6 (-9000000000000000000)))) SI2 SJ2
    exact ⟨_, rfl, (q1.1 c2)⟩
  · refine gj_Do.mono (q1.2 c2) (fun v_ SI4 SJ4 h_ => ?_)
    obtain ⟨r3, rfl, q3⟩ := h_
    show gj_Goes E om0 mt_245 16 [some (.ref 81), some (.int a1)] [(.int r3)] SI4 SJ4 (QL Q)
    refine gj_goq gj_clT ok_245 [9, 16] ?_
    show (¬ r3 = 0 → gj_Goes E om0 mt_245 23 [some (.ref 81), some (.int a1)] [] SI4 SJ4 (QL Q)) ∧ (r3 = 0 → QL Q (some (.long (i6 (-9000000000000000000)))) SI4 SJ4)
    refine ⟨fun c4 => ?_, fun c4 => ?_⟩
    · refine gj_goq gj_clT ok_245 [9, 16] ?_
      show (¬ a1 = 0 → gj_Goes E om0 mt_245 34 [some (.ref 81), some (.int a1)] [] SI4 SJ4 (QL Q)) ∧ (a1 = 0 → gj_Goes E om0 mt_245 50 [some (.ref 81), some (.int a1)] [(.long (SJ4 81 9))] SI4 SJ4 (QL Q))
      refine ⟨fun c5 => ?_, fun c5 => ?_⟩
      · refine gj_goq gj_clT ok_245 [9, 16] ?_
        show (¬ a1 = (i3 1) → gj_Goes E om0 mt_245 46 [some (.ref 81), some (.int a1)] [] SI4 SJ4 (QL Q)) ∧ (a1 = (i3 1) → gj_Goes E om0 mt_245 50 [some (.ref 81), some (.int a1)] [(.long (SJ4 81 10))] SI4 SJ4 (QL Q))
        refine ⟨fun c6 => ?_, fun c6 => ?_⟩
        · refine gj_goq gj_clT ok_245 [9, 16] ?_
          show QL Q (some (.long (SJ4 81 11))) SI4 SJ4
          exact ⟨_, rfl, (((q3.1 c4).1 c5).1 c6)⟩
        · refine gj_goq gj_clT ok_245 [9, 16] ?_
          show QL Q (some (.long (SJ4 81 10))) SI4 SJ4
          exact ⟨_, rfl, (((q3.1 c4).1 c5).2 c6)⟩
      · refine gj_goq gj_clT ok_245 [9, 16] ?_
        show QL Q (some (.long (SJ4 81 9))) SI4 SJ4
        exact ⟨_, rfl, ((q3.1 c4).2 c5)⟩
    · exact ⟨_, rfl, (q3.2 c4)⟩
set_option maxRecDepth 20000 in
/-- GraspJudgeModel.against -/
theorem st_246 {E : gj_E} {Q : Int32 → gj_I → gj_J → Prop} (a1 : Int32) (SI : gj_I) (SJ : gj_J) (h : vp_in a1 70 ∧ (((SJ 97 (gj_n a1)) = (SJ 81 9) → ((SJ 98 (gj_n a1)) = (SJ 81 10) → (¬ (SJ 99 (gj_n a1)) = (SJ 81 11) → ((SJ 99 (gj_n a1)) ≥ (SJ 81 11) → Q (i3 1) SI SJ) ∧ (¬ (SJ 99 (gj_n a1)) ≥ (SJ 81 11) → Q (i3 (-1)) SI SJ)) ∧ ((SJ 99 (gj_n a1)) = (SJ 81 11) → Q (i3 0) SI SJ)) ∧ (¬ (SJ 98 (gj_n a1)) = (SJ 81 10) → ((SJ 98 (gj_n a1)) ≥ (SJ 81 10) → Q (i3 1) SI SJ) ∧ (¬ (SJ 98 (gj_n a1)) ≥ (SJ 81 10) → Q (i3 (-1)) SI SJ))) ∧ (¬ (SJ 97 (gj_n a1)) = (SJ 81 9) → ((SJ 97 (gj_n a1)) ≥ (SJ 81 9) → Q (i3 1) SI SJ) ∧ (¬ (SJ 97 (gj_n a1)) ≥ (SJ 81 9) → Q (i3 (-1)) SI SJ)))) : DoI E 246 [(.ref 81), (.int a1)] SI SJ Q := by
  refine gj_start (M := mt_246) ok_246 (Nat.le_of_ble_eq_true rfl) ?_
  refine gj_goq gj_clT ok_246 [] ?_
  show vp_in a1 70 ∧ (((lg_cmp (SJ 97 (gj_n a1)) (SJ 81 9)) = 0 → gj_Goes E om0 mt_246 34 [some (.ref 81), some (.int a1)] [] SI SJ (QI Q)) ∧ (¬ (lg_cmp (SJ 97 (gj_n a1)) (SJ 81 9)) = 0 → vp_in a1 70 ∧ ((0 ≤ (lg_cmp (SJ 97 (gj_n a1)) (SJ 81 9)) → gj_Goes E om0 mt_246 32 [some (.ref 81), some (.int a1)] [] SI SJ (QI Q)) ∧ (¬ 0 ≤ (lg_cmp (SJ 97 (gj_n a1)) (SJ 81 9)) → gj_Goes E om0 mt_246 33 [some (.ref 81), some (.int a1)] [(.int (i3 (-1)))] SI SJ (QI Q)))))
  have k1 := h.1
  refine ⟨k1, ?_⟩
  refine ⟨fun c2 => ?_, fun c2 => ?_⟩
  · refine gj_goq gj_clT ok_246 [] ?_
    show vp_in a1 70 ∧ (((lg_cmp (SJ 98 (gj_n a1)) (SJ 81 10)) = 0 → gj_Goes E om0 mt_246 68 [some (.ref 81), some (.int a1)] [] SI SJ (QI Q)) ∧ (¬ (lg_cmp (SJ 98 (gj_n a1)) (SJ 81 10)) = 0 → vp_in a1 70 ∧ ((0 ≤ (lg_cmp (SJ 98 (gj_n a1)) (SJ 81 10)) → gj_Goes E om0 mt_246 66 [some (.ref 81), some (.int a1)] [] SI SJ (QI Q)) ∧ (¬ 0 ≤ (lg_cmp (SJ 98 (gj_n a1)) (SJ 81 10)) → gj_Goes E om0 mt_246 67 [some (.ref 81), some (.int a1)] [(.int (i3 (-1)))] SI SJ (QI Q)))))
    refine ⟨k1, ?_⟩
    refine ⟨fun c3 => ?_, fun c3 => ?_⟩
    · refine gj_goq gj_clT ok_246 [] ?_
      show vp_in a1 70 ∧ ((¬ (lg_cmp (SJ 99 (gj_n a1)) (SJ 81 11)) = 0 → gj_Goes E om0 mt_246 86 [some (.ref 81), some (.int a1)] [] SI SJ (QI Q)) ∧ ((lg_cmp (SJ 99 (gj_n a1)) (SJ 81 11)) = 0 → gj_Goes E om0 mt_246 105 [some (.ref 81), some (.int a1)] [(.int (i3 0))] SI SJ (QI Q)))
      refine ⟨k1, ?_⟩
      refine ⟨fun c4 => ?_, fun c4 => ?_⟩
      · refine gj_goq gj_clT ok_246 [] ?_
        show vp_in a1 70 ∧ ((0 ≤ (lg_cmp (SJ 99 (gj_n a1)) (SJ 81 11)) → gj_Goes E om0 mt_246 104 [some (.ref 81), some (.int a1)] [] SI SJ (QI Q)) ∧ (¬ 0 ≤ (lg_cmp (SJ 99 (gj_n a1)) (SJ 81 11)) → gj_Goes E om0 mt_246 105 [some (.ref 81), some (.int a1)] [(.int (i3 (-1)))] SI SJ (QI Q)))
        refine ⟨k1, ?_⟩
        refine ⟨fun c5 => ?_, fun c5 => ?_⟩
        · refine gj_goq gj_clT ok_246 [] ?_
          show QI Q (some (.int (i3 1))) SI SJ
          exact ⟨_, rfl, ((((h.2.1 (lgc_eq.mp c2)).1 (lgc_eq.mp c3)).1 (fun z_ => c4 (lgc_eq.mpr z_))).1 (lgc_ge.mp c5))⟩
        · refine gj_goq gj_clT ok_246 [] ?_
          show QI Q (some (.int (i3 (-1)))) SI SJ
          exact ⟨_, rfl, ((((h.2.1 (lgc_eq.mp c2)).1 (lgc_eq.mp c3)).1 (fun z_ => c4 (lgc_eq.mpr z_))).2 (fun z_ => c5 (lgc_ge.mpr z_)))⟩
      · refine gj_goq gj_clT ok_246 [] ?_
        show QI Q (some (.int (i3 0))) SI SJ
        exact ⟨_, rfl, (((h.2.1 (lgc_eq.mp c2)).1 (lgc_eq.mp c3)).2 (lgc_eq.mp c4))⟩
    · refine ⟨k1, ?_⟩
      refine ⟨fun c6 => ?_, fun c6 => ?_⟩
      · refine gj_goq gj_clT ok_246 [] ?_
        show QI Q (some (.int (i3 1))) SI SJ
        exact ⟨_, rfl, (((h.2.1 (lgc_eq.mp c2)).2 (fun z_ => c3 (lgc_eq.mpr z_))).1 (lgc_ge.mp c6))⟩
      · refine gj_goq gj_clT ok_246 [] ?_
        show QI Q (some (.int (i3 (-1)))) SI SJ
        exact ⟨_, rfl, (((h.2.1 (lgc_eq.mp c2)).2 (fun z_ => c3 (lgc_eq.mpr z_))).2 (fun z_ => c6 (lgc_ge.mpr z_)))⟩
  · refine ⟨k1, ?_⟩
    refine ⟨fun c7 => ?_, fun c7 => ?_⟩
    · refine gj_goq gj_clT ok_246 [] ?_
      show QI Q (some (.int (i3 1))) SI SJ
      exact ⟨_, rfl, ((h.2.2 (fun z_ => c2 (lgc_eq.mpr z_))).1 (lgc_ge.mp c7))⟩
    · refine gj_goq gj_clT ok_246 [] ?_
      show QI Q (some (.int (i3 (-1)))) SI SJ
      exact ⟨_, rfl, ((h.2.2 (fun z_ => c2 (lgc_eq.mpr z_))).2 (fun z_ => c7 (lgc_ge.mpr z_)))⟩
set_option maxRecDepth 20000 in
/-- GraspJudgeModel.comesFree -/
theorem st_247 {E : gj_E} {Q : gj_I → gj_J → Prop} (SI : gj_I) (SJ : gj_J) (h : GoV E mt_247 2 [some (.ref 81), some (.int (i3 0)), none] SI SJ Q) : DoV E 247 [(.ref 81)] SI SJ Q := by
  refine gj_start (M := mt_247) ok_247 (Nat.le_of_ble_eq_true rfl) ?_
  refine gj_goq gj_clT ok_247 [2, 15, 38, 47] ?_
  show gj_Goes E om0 mt_247 2 [some (.ref 81), some (.int (i3 0)), none] [] SI SJ (QV Q)
  exact h
set_option maxRecDepth 20000 in
theorem lp_247_2 {E : gj_E} {Q : gj_I → gj_J → Prop} (x1 : Int32) (SI : gj_I) (SJ : gj_J) (h : ((SI 81 37) ≤ x1 → ((SI 81 37) ≤ x1 → GoV E mt_247 47 [some (.ref 81), some (.int x1), some (.int (SI 81 37))] SI SJ Q) ∧ (¬ (SI 81 37) ≤ x1 → DoI E 246 [(.ref 81), (.int x1)] SI SJ (fun r1 SI2 SJ2 => (¬ r1 = 0 → GoV E mt_247 47 [some (.ref 81), some (.int x1), some (.int (SI2 81 37))] SI2 SJ2 Q) ∧ (r1 = 0 → Q SI2 SJ2)))) ∧ (¬ (SI 81 37) ≤ x1 → DoI E 246 [(.ref 81), (.int x1)] SI SJ (fun r3 SI4 SJ4 => (0 ≤ r3 → ((SI4 81 37) ≤ x1 → GoV E mt_247 47 [some (.ref 81), some (.int x1), some (.int (SI4 81 37))] SI4 SJ4 Q) ∧ (¬ (SI4 81 37) ≤ x1 → DoI E 246 [(.ref 81), (.int x1)] SI4 SJ4 (fun r5 SI6 SJ6 => (¬ r5 = 0 → GoV E mt_247 47 [some (.ref 81), some (.int x1), some (.int (SI6 81 37))] SI6 SJ6 Q) ∧ (r5 = 0 → Q SI6 SJ6)))) ∧ (¬ 0 ≤ r3 → GoV E mt_247 2 [some (.ref 81), some (.int (x1 + (i3 1))), none] SI4 SJ4 Q)))) : GoV E mt_247 2 [some (.ref 81), some (.int x1), none] SI SJ Q := by
  refine gj_goq gj_clT ok_247 [2, 15, 38, 47] ?_
  show ((SI 81 37) ≤ x1 → gj_Goes E om0 mt_247 25 [some (.ref 81), some (.int x1), none] [] SI SJ (QV Q)) ∧ (¬ (SI 81 37) ≤ x1 → gj_Do E om0 (gj_mt 246) [(.ref 81), (.int x1)] SI SJ _)
  refine ⟨fun c1 => ?_, fun c1 => ?_⟩
  · refine gj_goq gj_clT ok_247 [2, 15, 38, 47] ?_
    show ((SI 81 37) ≤ x1 → gj_Goes E om0 mt_247 42 [some (.ref 81), some (.int x1), none] [] SI SJ (QV Q)) ∧ (¬ (SI 81 37) ≤ x1 → gj_Do E om0 (gj_mt 246) [(.ref 81), (.int x1)] SI SJ _)
    refine ⟨fun c2 => ?_, fun c2 => ?_⟩
    · refine gj_goq gj_clT ok_247 [2, 15, 38, 47] ?_
      show gj_Goes E om0 mt_247 47 [some (.ref 81), some (.int x1), some (.int (SI 81 37))] [] SI SJ (QV Q)
      exact ((h.1 c1).1 c2)
    · refine gj_Do.mono ((h.1 c1).2 c2) (fun v_ SI2 SJ2 h_ => ?_)
      obtain ⟨r1, rfl, q3⟩ := h_
      show gj_Goes E om0 mt_247 38 [some (.ref 81), some (.int x1), none] [(.int r1)] SI2 SJ2 (QV Q)
      refine gj_goq gj_clT ok_247 [2, 15, 38, 47] ?_
      show (¬ r1 = 0 → gj_Goes E om0 mt_247 42 [some (.ref 81), some (.int x1), none] [] SI2 SJ2 (QV Q)) ∧ (r1 = 0 → QV Q none SI2 SJ2)
      refine ⟨fun c4 => ?_, fun c4 => ?_⟩
      · refine gj_goq gj_clT ok_247 [2, 15, 38, 47] ?_
        show gj_Goes E om0 mt_247 47 [some (.ref 81), some (.int x1), some (.int (SI2 81 37))] [] SI2 SJ2 (QV Q)
        exact (q3.1 c4)
      · exact ⟨rfl, (q3.2 c4)⟩
  · refine gj_Do.mono (h.2 c1) (fun v_ SI4 SJ4 h_ => ?_)
    obtain ⟨r3, rfl, q5⟩ := h_
    show gj_Goes E om0 mt_247 15 [some (.ref 81), some (.int x1), none] [(.int r3)] SI4 SJ4 (QV Q)
    refine gj_goq gj_clT ok_247 [2, 15, 38, 47] ?_
    show (0 ≤ r3 → gj_Goes E om0 mt_247 25 [some (.ref 81), some (.int x1), none] [] SI4 SJ4 (QV Q)) ∧ (¬ 0 ≤ r3 → gj_Goes E om0 mt_247 2 [some (.ref 81), some (.int (x1 + (i3 1))), none] [] SI4 SJ4 (QV Q))
    refine ⟨fun c6 => ?_, fun c6 => ?_⟩
    · refine gj_goq gj_clT ok_247 [2, 15, 38, 47] ?_
      show ((SI4 81 37) ≤ x1 → gj_Goes E om0 mt_247 42 [some (.ref 81), some (.int x1), none] [] SI4 SJ4 (QV Q)) ∧ (¬ (SI4 81 37) ≤ x1 → gj_Do E om0 (gj_mt 246) [(.ref 81), (.int x1)] SI4 SJ4 _)
      refine ⟨fun c7 => ?_, fun c7 => ?_⟩
      · refine gj_goq gj_clT ok_247 [2, 15, 38, 47] ?_
        show gj_Goes E om0 mt_247 47 [some (.ref 81), some (.int x1), some (.int (SI4 81 37))] [] SI4 SJ4 (QV Q)
        exact ((q5.1 c6).1 c7)
      · refine gj_Do.mono ((q5.1 c6).2 c7) (fun v_ SI6 SJ6 h_ => ?_)
        obtain ⟨r5, rfl, q8⟩ := h_
        show gj_Goes E om0 mt_247 38 [some (.ref 81), some (.int x1), none] [(.int r5)] SI6 SJ6 (QV Q)
        refine gj_goq gj_clT ok_247 [2, 15, 38, 47] ?_
        show (¬ r5 = 0 → gj_Goes E om0 mt_247 42 [some (.ref 81), some (.int x1), none] [] SI6 SJ6 (QV Q)) ∧ (r5 = 0 → QV Q none SI6 SJ6)
        refine ⟨fun c9 => ?_, fun c9 => ?_⟩
        · refine gj_goq gj_clT ok_247 [2, 15, 38, 47] ?_
          show gj_Goes E om0 mt_247 47 [some (.ref 81), some (.int x1), some (.int (SI6 81 37))] [] SI6 SJ6 (QV Q)
          exact (q8.1 c9)
        · exact ⟨rfl, (q8.2 c9)⟩
    · exact (q5.2 c6)
set_option maxRecDepth 20000 in
theorem lp_247_47 {E : gj_E} {Q : gj_I → gj_J → Prop} (x1 : Int32) (x2 : Int32) (SI : gj_I) (SJ : gj_J) (h : (x2 ≤ x1 → vp_in x1 70 ∧ (Q (gj_u2 SI 81 37 ((SI 81 37) + (i3 1))) (gj_w2 (gj_w2 (gj_w2 SJ 97 (gj_n x1) (SJ 81 9)) 98 (gj_n x1) (SJ 81 10)) 99 (gj_n x1) (SJ 81 11)))) ∧ (¬ x2 ≤ x1 → vp_in (x2 - (i3 1)) 70 ∧ (vp_in x2 70 ∧ (GoV E mt_247 47 [some (.ref 81), some (.int x1), some (.int (x2 + (i3 (-1))))] SI (gj_w2 (gj_w2 (gj_w2 SJ 97 (gj_n x2) (SJ 97 (gj_n (x2 - (i3 1))))) 98 (gj_n x2) (SJ 98 (gj_n (x2 - (i3 1))))) 99 (gj_n x2) (SJ 99 (gj_n (x2 - (i3 1))))) Q)))) : GoV E mt_247 47 [some (.ref 81), some (.int x1), some (.int x2)] SI SJ Q := by
  refine gj_goq gj_clT ok_247 [2, 15, 38, 47] ?_
  show (x2 ≤ x1 → gj_Goes E om0 mt_247 100 [some (.ref 81), some (.int x1), some (.int x2)] [] SI SJ (QV Q)) ∧ (¬ x2 ≤ x1 → vp_in (x2 - (i3 1)) 70 ∧ (vp_in x2 70 ∧ (vp_in (x2 - (i3 1)) 70 ∧ (vp_in x2 70 ∧ (vp_in (x2 - (i3 1)) 70 ∧ (vp_in x2 70 ∧ (gj_Goes E om0 mt_247 47 [some (.ref 81), some (.int x1), some (.int (x2 + (i3 (-1))))] [] SI (gj_w2 (gj_w2 (gj_w2 SJ 97 (gj_n x2) (SJ 97 (gj_n (x2 - (i3 1))))) 98 (gj_n x2) (SJ 98 (gj_n (x2 - (i3 1))))) 99 (gj_n x2) (SJ 99 (gj_n (x2 - (i3 1))))) (QV Q))))))))
  refine ⟨fun c1 => ?_, fun c1 => ?_⟩
  · refine gj_goq gj_clT ok_247 [2, 15, 38, 47] ?_
    show vp_in x1 70 ∧ (vp_in x1 70 ∧ (vp_in x1 70 ∧ (QV Q none (gj_u2 SI 81 37 ((SI 81 37) + (i3 1))) (gj_w2 (gj_w2 (gj_w2 SJ 97 (gj_n x1) (SJ 81 9)) 98 (gj_n x1) (SJ 81 10)) 99 (gj_n x1) (SJ 81 11)))))
    have k2 := (h.1 c1).1
    refine ⟨k2, ?_⟩
    refine ⟨k2, ?_⟩
    refine ⟨k2, ?_⟩
    exact ⟨rfl, (h.1 c1).2⟩
  · have k3 := (h.2 c1).1
    refine ⟨k3, ?_⟩
    have k4 := (h.2 c1).2.1
    refine ⟨k4, ?_⟩
    refine ⟨k3, ?_⟩
    refine ⟨k4, ?_⟩
    refine ⟨k3, ?_⟩
    refine ⟨k4, ?_⟩
    exact (h.2 c1).2.2
set_option maxRecDepth 20000 in
/-- GraspJudgeModel.frees -/
theorem st_248 {E : gj_E} {Q : Int64 → gj_I → gj_J → Prop} (a1 : Int32) (a2 : Int32) (SI : gj_I) (SJ : gj_J) (h : (a1 < (i3 (-1)) → Q (i6 (-9000000000000000000)) SI SJ) ∧ (¬ a1 < (i3 (-1)) → DoI E 155 [(.long (a2).toInt64), (.long (i6 0)), (.long (i6 2))] SI SJ (fun r1 SI2 SJ2 => (r1 = 0 → Q (i6 (-9000000000000000000)) SI2 SJ2) ∧ (¬ r1 = 0 → (¬ a1 = (i3 (-1)) → DoV E 184 [(.ref 81)] SI2 SJ2 (fun SI4 SJ4 => DoI E 185 [(.ref 81)] (gj_u2 SI4 81 37 (i3 0)) SJ4 (fun r5 SI6 SJ6 => DoI E 193 [(.ref 81), (.int r5)] SI6 SJ6 (fun r7 SI8 SJ8 => (¬ r7 = (i3 3) → (¬ a1 = (i3 (-1)) → (a1 < (SI8 81 37) → (¬ a2 = 0 → (¬ a2 = (i3 1) → vp_in a1 70 ∧ (Q (SJ8 99 (gj_n a1)) SI8 SJ8)) ∧ (a2 = (i3 1) → vp_in a1 70 ∧ (Q (SJ8 98 (gj_n a1)) SI8 SJ8))) ∧ (a2 = 0 → vp_in a1 70 ∧ (Q (SJ8 97 (gj_n a1)) SI8 SJ8))) ∧ (¬ a1 < (SI8 81 37) → Q (i6 (-9000000000000000000)) SI8 SJ8)) ∧ (a1 = (i3 (-1)) → Q (SI8 81 37).toInt64 SI8 SJ8)) ∧ (r7 = (i3 3) → GoL E mt_248 53 [some (.ref 81), some (.int a1), some (.int a2), some (.int (i3 0)), none] SI8 SJ8 Q))))) ∧ (a1 = (i3 (-1)) → (a2 ≤ 0 → DoV E 184 [(.ref 81)] SI2 SJ2 (fun SI10 SJ10 => DoI E 185 [(.ref 81)] (gj_u2 SI10 81 37 (i3 0)) SJ10 (fun r11 SI12 SJ12 => DoI E 193 [(.ref 81), (.int r11)] SI12 SJ12 (fun r13 SI14 SJ14 => (¬ r13 = (i3 3) → (¬ a1 = (i3 (-1)) → (a1 < (SI14 81 37) → (¬ a2 = 0 → (¬ a2 = (i3 1) → vp_in a1 70 ∧ (Q (SJ14 99 (gj_n a1)) SI14 SJ14)) ∧ (a2 = (i3 1) → vp_in a1 70 ∧ (Q (SJ14 98 (gj_n a1)) SI14 SJ14))) ∧ (a2 = 0 → vp_in a1 70 ∧ (Q (SJ14 97 (gj_n a1)) SI14 SJ14))) ∧ (¬ a1 < (SI14 81 37) → Q (i6 (-9000000000000000000)) SI14 SJ14)) ∧ (a1 = (i3 (-1)) → Q (SI14 81 37).toInt64 SI14 SJ14)) ∧ (r13 = (i3 3) → GoL E mt_248 53 [some (.ref 81), some (.int a1), some (.int a2), some (.int (i3 0)), none] SI14 SJ14 Q))))) ∧ (¬ a2 ≤ 0 → Q (i6 (-9000000000000000000)) SI2 SJ2)))))) : DoL E 248 [(.ref 81), (.int a1), (.int a2)] SI SJ Q := by
  refine gj_start (M := mt_248) ok_248 (Nat.le_of_ble_eq_true rfl) ?_
  refine gj_goq gj_clT ok_248 [14, 34, 44, 47, 53, 66, 82, 89] ?_
  show (a1 < (i3 (-1)) → gj_Goes E om0 mt_248 26 [some (.ref 81), some (.int a1), some (.int a2), none, none] [] SI SJ (QL Q)) ∧ (¬ a1 < (i3 (-1)) → gj_Do E om0 (gj_mt 155) [(.long (a2).toInt64), (.long (i6 0)), (.long (i6 2))] SI SJ _)
  refine ⟨fun c1 => ?_, fun c1 => ?_⟩
  · refine gj_goq gj_clT ok_248 [14, 34, 44, 47, 53, 66, 82, 89] ?_
    show QL Q (some (.long (i6 (-9000000000000000000)))) SI SJ
    exact ⟨_, rfl, (h.1 c1)⟩
  · refine gj_Do.mono (h.2 c1) (fun v_ SI2 SJ2 h_ => ?_)
    obtain ⟨r1, rfl, q2⟩ := h_
    show gj_Goes E om0 mt_248 14 [some (.ref 81), some (.int a1), some (.int a2), none, none] [(.int r1)] SI2 SJ2 (QL Q)
    refine gj_goq gj_clT ok_248 [14, 34, 44, 47, 53, 66, 82, 89] ?_
    show (r1 = 0 → gj_Goes E om0 mt_248 26 [some (.ref 81), some (.int a1), some (.int a2), none, none] [] SI2 SJ2 (QL Q)) ∧ (¬ r1 = 0 → (¬ a1 = (i3 (-1)) → gj_Goes E om0 mt_248 30 [some (.ref 81), some (.int a1), some (.int a2), none, none] [] SI2 SJ2 (QL Q)) ∧ (a1 = (i3 (-1)) → (a2 ≤ 0 → gj_Goes E om0 mt_248 30 [some (.ref 81), some (.int a1), some (.int a2), none, none] [] SI2 SJ2 (QL Q)) ∧ (¬ a2 ≤ 0 → QL Q (some (.long (i6 (-9000000000000000000)))) SI2 SJ2)))
    refine ⟨fun c3 => ?_, fun c3 => ?_⟩
    · refine gj_goq gj_clT ok_248 [14, 34, 44, 47, 53, 66, 82, 89] ?_
      show QL Q (some (.long (i6 (-9000000000000000000)))) SI2 SJ2
      exact ⟨_, rfl, (q2.1 c3)⟩
    · refine ⟨fun c4 => ?_, fun c4 => ?_⟩
      · refine gj_goq gj_clT ok_248 [14, 34, 44, 47, 53, 66, 82, 89] ?_
        show gj_Do E om0 (gj_mt 184) [(.ref 81)] SI2 SJ2 _
        refine gj_Do.mono ((q2.2 c3).1 c4) (fun v_ SI4 SJ4 h_ => ?_)
        obtain ⟨rfl, q5⟩ := h_
        show gj_Goes E om0 mt_248 34 [some (.ref 81), some (.int a1), some (.int a2), none, none] [] SI4 SJ4 (QL Q)
        refine gj_goq gj_clT ok_248 [14, 34, 44, 47, 53, 66, 82, 89] ?_
        show gj_Do E om0 (gj_mt 185) [(.ref 81)] (gj_u2 SI4 81 37 (i3 0)) SJ4 _
        refine gj_Do.mono q5 (fun v_ SI6 SJ6 h_ => ?_)
        obtain ⟨r5, rfl, q6⟩ := h_
        show gj_Goes E om0 mt_248 44 [some (.ref 81), some (.int a1), some (.int a2), none, none] [(.int r5), (.ref 81)] SI6 SJ6 (QL Q)
        refine gj_goq gj_clT ok_248 [14, 34, 44, 47, 53, 66, 82, 89] ?_
        show gj_Do E om0 (gj_mt 193) [(.ref 81), (.int r5)] SI6 SJ6 _
        refine gj_Do.mono q6 (fun v_ SI8 SJ8 h_ => ?_)
        obtain ⟨r7, rfl, q7⟩ := h_
        show gj_Goes E om0 mt_248 47 [some (.ref 81), some (.int a1), some (.int a2), none, none] [(.int r7)] SI8 SJ8 (QL Q)
        refine gj_goq gj_clT ok_248 [14, 34, 44, 47, 53, 66, 82, 89] ?_
        show (¬ r7 = (i3 3) → gj_Goes E om0 mt_248 101 [some (.ref 81), some (.int a1), some (.int a2), none, none] [] SI8 SJ8 (QL Q)) ∧ (r7 = (i3 3) → gj_Goes E om0 mt_248 53 [some (.ref 81), some (.int a1), some (.int a2), some (.int (i3 0)), none] [] SI8 SJ8 (QL Q))
        refine ⟨fun c8 => ?_, fun c8 => ?_⟩
        · refine gj_goq gj_clT ok_248 [14, 34, 44, 47, 53, 66, 82, 89] ?_
          show (¬ a1 = (i3 (-1)) → gj_Goes E om0 mt_248 112 [some (.ref 81), some (.int a1), some (.int a2), none, none] [] SI8 SJ8 (QL Q)) ∧ (a1 = (i3 (-1)) → QL Q (some (.long (SI8 81 37).toInt64)) SI8 SJ8)
          refine ⟨fun c9 => ?_, fun c9 => ?_⟩
          · refine gj_goq gj_clT ok_248 [14, 34, 44, 47, 53, 66, 82, 89] ?_
            show (a1 < (SI8 81 37) → gj_Goes E om0 mt_248 126 [some (.ref 81), some (.int a1), some (.int a2), none, none] [] SI8 SJ8 (QL Q)) ∧ (¬ a1 < (SI8 81 37) → gj_Goes E om0 mt_248 159 [some (.ref 81), some (.int a1), some (.int a2), none, none] [(.long (i6 (-9000000000000000000)))] SI8 SJ8 (QL Q))
            refine ⟨fun c10 => ?_, fun c10 => ?_⟩
            · refine gj_goq gj_clT ok_248 [14, 34, 44, 47, 53, 66, 82, 89] ?_
              show (¬ a2 = 0 → gj_Goes E om0 mt_248 139 [some (.ref 81), some (.int a1), some (.int a2), none, none] [] SI8 SJ8 (QL Q)) ∧ (a2 = 0 → vp_in a1 70 ∧ (gj_Goes E om0 mt_248 159 [some (.ref 81), some (.int a1), some (.int a2), none, none] [(.long (SJ8 97 (gj_n a1)))] SI8 SJ8 (QL Q)))
              refine ⟨fun c11 => ?_, fun c11 => ?_⟩
              · refine gj_goq gj_clT ok_248 [14, 34, 44, 47, 53, 66, 82, 89] ?_
                show (¬ a2 = (i3 1) → gj_Goes E om0 mt_248 153 [some (.ref 81), some (.int a1), some (.int a2), none, none] [] SI8 SJ8 (QL Q)) ∧ (a2 = (i3 1) → vp_in a1 70 ∧ (gj_Goes E om0 mt_248 159 [some (.ref 81), some (.int a1), some (.int a2), none, none] [(.long (SJ8 98 (gj_n a1)))] SI8 SJ8 (QL Q)))
                refine ⟨fun c12 => ?_, fun c12 => ?_⟩
                · refine gj_goq gj_clT ok_248 [14, 34, 44, 47, 53, 66, 82, 89] ?_
                  show vp_in a1 70 ∧ (QL Q (some (.long (SJ8 99 (gj_n a1)))) SI8 SJ8)
                  have k13 := (((((q7.1 c8).1 c9).1 c10).1 c11).1 c12).1
                  refine ⟨k13, ?_⟩
                  exact ⟨_, rfl, (((((q7.1 c8).1 c9).1 c10).1 c11).1 c12).2⟩
                · have k14 := (((((q7.1 c8).1 c9).1 c10).1 c11).2 c12).1
                  refine ⟨k14, ?_⟩
                  refine gj_goq gj_clT ok_248 [14, 34, 44, 47, 53, 66, 82, 89] ?_
                  show QL Q (some (.long (SJ8 98 (gj_n a1)))) SI8 SJ8
                  exact ⟨_, rfl, (((((q7.1 c8).1 c9).1 c10).1 c11).2 c12).2⟩
              · have k15 := ((((q7.1 c8).1 c9).1 c10).2 c11).1
                refine ⟨k15, ?_⟩
                refine gj_goq gj_clT ok_248 [14, 34, 44, 47, 53, 66, 82, 89] ?_
                show QL Q (some (.long (SJ8 97 (gj_n a1)))) SI8 SJ8
                exact ⟨_, rfl, ((((q7.1 c8).1 c9).1 c10).2 c11).2⟩
            · refine gj_goq gj_clT ok_248 [14, 34, 44, 47, 53, 66, 82, 89] ?_
              show QL Q (some (.long (i6 (-9000000000000000000)))) SI8 SJ8
              exact ⟨_, rfl, (((q7.1 c8).1 c9).2 c10)⟩
          · exact ⟨_, rfl, ((q7.1 c8).2 c9)⟩
        · exact (q7.2 c8)
      · refine ⟨fun c16 => ?_, fun c16 => ?_⟩
        · refine gj_goq gj_clT ok_248 [14, 34, 44, 47, 53, 66, 82, 89] ?_
          show gj_Do E om0 (gj_mt 184) [(.ref 81)] SI2 SJ2 _
          refine gj_Do.mono (((q2.2 c3).2 c4).1 c16) (fun v_ SI10 SJ10 h_ => ?_)
          obtain ⟨rfl, q17⟩ := h_
          show gj_Goes E om0 mt_248 34 [some (.ref 81), some (.int a1), some (.int a2), none, none] [] SI10 SJ10 (QL Q)
          refine gj_goq gj_clT ok_248 [14, 34, 44, 47, 53, 66, 82, 89] ?_
          show gj_Do E om0 (gj_mt 185) [(.ref 81)] (gj_u2 SI10 81 37 (i3 0)) SJ10 _
          refine gj_Do.mono q17 (fun v_ SI12 SJ12 h_ => ?_)
          obtain ⟨r11, rfl, q18⟩ := h_
          show gj_Goes E om0 mt_248 44 [some (.ref 81), some (.int a1), some (.int a2), none, none] [(.int r11), (.ref 81)] SI12 SJ12 (QL Q)
          refine gj_goq gj_clT ok_248 [14, 34, 44, 47, 53, 66, 82, 89] ?_
          show gj_Do E om0 (gj_mt 193) [(.ref 81), (.int r11)] SI12 SJ12 _
          refine gj_Do.mono q18 (fun v_ SI14 SJ14 h_ => ?_)
          obtain ⟨r13, rfl, q19⟩ := h_
          show gj_Goes E om0 mt_248 47 [some (.ref 81), some (.int a1), some (.int a2), none, none] [(.int r13)] SI14 SJ14 (QL Q)
          refine gj_goq gj_clT ok_248 [14, 34, 44, 47, 53, 66, 82, 89] ?_
          show (¬ r13 = (i3 3) → gj_Goes E om0 mt_248 101 [some (.ref 81), some (.int a1), some (.int a2), none, none] [] SI14 SJ14 (QL Q)) ∧ (r13 = (i3 3) → gj_Goes E om0 mt_248 53 [some (.ref 81), some (.int a1), some (.int a2), some (.int (i3 0)), none] [] SI14 SJ14 (QL Q))
          refine ⟨fun c20 => ?_, fun c20 => ?_⟩
          · refine gj_goq gj_clT ok_248 [14, 34, 44, 47, 53, 66, 82, 89] ?_
            show (¬ a1 = (i3 (-1)) → gj_Goes E om0 mt_248 112 [some (.ref 81), some (.int a1), some (.int a2), none, none] [] SI14 SJ14 (QL Q)) ∧ (a1 = (i3 (-1)) → QL Q (some (.long (SI14 81 37).toInt64)) SI14 SJ14)
            refine ⟨fun c21 => ?_, fun c21 => ?_⟩
            · refine gj_goq gj_clT ok_248 [14, 34, 44, 47, 53, 66, 82, 89] ?_
              show (a1 < (SI14 81 37) → gj_Goes E om0 mt_248 126 [some (.ref 81), some (.int a1), some (.int a2), none, none] [] SI14 SJ14 (QL Q)) ∧ (¬ a1 < (SI14 81 37) → gj_Goes E om0 mt_248 159 [some (.ref 81), some (.int a1), some (.int a2), none, none] [(.long (i6 (-9000000000000000000)))] SI14 SJ14 (QL Q))
              refine ⟨fun c22 => ?_, fun c22 => ?_⟩
              · refine gj_goq gj_clT ok_248 [14, 34, 44, 47, 53, 66, 82, 89] ?_
                show (¬ a2 = 0 → gj_Goes E om0 mt_248 139 [some (.ref 81), some (.int a1), some (.int a2), none, none] [] SI14 SJ14 (QL Q)) ∧ (a2 = 0 → vp_in a1 70 ∧ (gj_Goes E om0 mt_248 159 [some (.ref 81), some (.int a1), some (.int a2), none, none] [(.long (SJ14 97 (gj_n a1)))] SI14 SJ14 (QL Q)))
                refine ⟨fun c23 => ?_, fun c23 => ?_⟩
                · refine gj_goq gj_clT ok_248 [14, 34, 44, 47, 53, 66, 82, 89] ?_
                  show (¬ a2 = (i3 1) → gj_Goes E om0 mt_248 153 [some (.ref 81), some (.int a1), some (.int a2), none, none] [] SI14 SJ14 (QL Q)) ∧ (a2 = (i3 1) → vp_in a1 70 ∧ (gj_Goes E om0 mt_248 159 [some (.ref 81), some (.int a1), some (.int a2), none, none] [(.long (SJ14 98 (gj_n a1)))] SI14 SJ14 (QL Q)))
                  refine ⟨fun c24 => ?_, fun c24 => ?_⟩
                  · refine gj_goq gj_clT ok_248 [14, 34, 44, 47, 53, 66, 82, 89] ?_
                    show vp_in a1 70 ∧ (QL Q (some (.long (SJ14 99 (gj_n a1)))) SI14 SJ14)
                    have k25 := (((((q19.1 c20).1 c21).1 c22).1 c23).1 c24).1
                    refine ⟨k25, ?_⟩
                    exact ⟨_, rfl, (((((q19.1 c20).1 c21).1 c22).1 c23).1 c24).2⟩
                  · have k26 := (((((q19.1 c20).1 c21).1 c22).1 c23).2 c24).1
                    refine ⟨k26, ?_⟩
                    refine gj_goq gj_clT ok_248 [14, 34, 44, 47, 53, 66, 82, 89] ?_
                    show QL Q (some (.long (SJ14 98 (gj_n a1)))) SI14 SJ14
                    exact ⟨_, rfl, (((((q19.1 c20).1 c21).1 c22).1 c23).2 c24).2⟩
                · have k27 := ((((q19.1 c20).1 c21).1 c22).2 c23).1
                  refine ⟨k27, ?_⟩
                  refine gj_goq gj_clT ok_248 [14, 34, 44, 47, 53, 66, 82, 89] ?_
                  show QL Q (some (.long (SJ14 97 (gj_n a1)))) SI14 SJ14
                  exact ⟨_, rfl, ((((q19.1 c20).1 c21).1 c22).2 c23).2⟩
              · refine gj_goq gj_clT ok_248 [14, 34, 44, 47, 53, 66, 82, 89] ?_
                show QL Q (some (.long (i6 (-9000000000000000000)))) SI14 SJ14
                exact ⟨_, rfl, (((q19.1 c20).1 c21).2 c22)⟩
            · exact ⟨_, rfl, ((q19.1 c20).2 c21)⟩
          · exact (q19.2 c20)
        · exact ⟨_, rfl, (((q2.2 c3).2 c4).2 c16)⟩
set_option maxRecDepth 20000 in
theorem lp_248_53 {E : gj_E} {Q : Int64 → gj_I → gj_J → Prop} (x1 : Int32) (x2 : Int32) (x3 : Int32) (SI : gj_I) (SJ : gj_J) (h : ((SI 81 8) ≤ x3 → (¬ x1 = (i3 (-1)) → (x1 < (SI 81 37) → (¬ x2 = 0 → (¬ x2 = (i3 1) → vp_in x1 70 ∧ (Q (SJ 99 (gj_n x1)) SI SJ)) ∧ (x2 = (i3 1) → vp_in x1 70 ∧ (Q (SJ 98 (gj_n x1)) SI SJ))) ∧ (x2 = 0 → vp_in x1 70 ∧ (Q (SJ 97 (gj_n x1)) SI SJ))) ∧ (¬ x1 < (SI 81 37) → Q (i6 (-9000000000000000000)) SI SJ)) ∧ (x1 = (i3 (-1)) → Q (SI 81 37).toInt64 SI SJ)) ∧ (¬ (SI 81 8) ≤ x3 → GoL E mt_248 66 [some (.ref 81), some (.int x1), some (.int x2), some (.int x3), some (.int (x3 + (i3 1)))] SI SJ Q)) : GoL E mt_248 53 [some (.ref 81), some (.int x1), some (.int x2), some (.int x3), none] SI SJ Q := by
  refine gj_goq gj_clT ok_248 [14, 34, 44, 47, 53, 66, 82, 89] ?_
  show ((SI 81 8) ≤ x3 → gj_Goes E om0 mt_248 101 [some (.ref 81), some (.int x1), some (.int x2), some (.int x3), none] [] SI SJ (QL Q)) ∧ (¬ (SI 81 8) ≤ x3 → gj_Goes E om0 mt_248 66 [some (.ref 81), some (.int x1), some (.int x2), some (.int x3), some (.int (x3 + (i3 1)))] [] SI SJ (QL Q))
  refine ⟨fun c1 => ?_, fun c1 => ?_⟩
  · refine gj_goq gj_clT ok_248 [14, 34, 44, 47, 53, 66, 82, 89] ?_
    show (¬ x1 = (i3 (-1)) → gj_Goes E om0 mt_248 112 [some (.ref 81), some (.int x1), some (.int x2), some (.int x3), none] [] SI SJ (QL Q)) ∧ (x1 = (i3 (-1)) → QL Q (some (.long (SI 81 37).toInt64)) SI SJ)
    refine ⟨fun c2 => ?_, fun c2 => ?_⟩
    · refine gj_goq gj_clT ok_248 [14, 34, 44, 47, 53, 66, 82, 89] ?_
      show (x1 < (SI 81 37) → gj_Goes E om0 mt_248 126 [some (.ref 81), some (.int x1), some (.int x2), some (.int x3), none] [] SI SJ (QL Q)) ∧ (¬ x1 < (SI 81 37) → gj_Goes E om0 mt_248 159 [some (.ref 81), some (.int x1), some (.int x2), some (.int x3), none] [(.long (i6 (-9000000000000000000)))] SI SJ (QL Q))
      refine ⟨fun c3 => ?_, fun c3 => ?_⟩
      · refine gj_goq gj_clT ok_248 [14, 34, 44, 47, 53, 66, 82, 89] ?_
        show (¬ x2 = 0 → gj_Goes E om0 mt_248 139 [some (.ref 81), some (.int x1), some (.int x2), some (.int x3), none] [] SI SJ (QL Q)) ∧ (x2 = 0 → vp_in x1 70 ∧ (gj_Goes E om0 mt_248 159 [some (.ref 81), some (.int x1), some (.int x2), some (.int x3), none] [(.long (SJ 97 (gj_n x1)))] SI SJ (QL Q)))
        refine ⟨fun c4 => ?_, fun c4 => ?_⟩
        · refine gj_goq gj_clT ok_248 [14, 34, 44, 47, 53, 66, 82, 89] ?_
          show (¬ x2 = (i3 1) → gj_Goes E om0 mt_248 153 [some (.ref 81), some (.int x1), some (.int x2), some (.int x3), none] [] SI SJ (QL Q)) ∧ (x2 = (i3 1) → vp_in x1 70 ∧ (gj_Goes E om0 mt_248 159 [some (.ref 81), some (.int x1), some (.int x2), some (.int x3), none] [(.long (SJ 98 (gj_n x1)))] SI SJ (QL Q)))
          refine ⟨fun c5 => ?_, fun c5 => ?_⟩
          · refine gj_goq gj_clT ok_248 [14, 34, 44, 47, 53, 66, 82, 89] ?_
            show vp_in x1 70 ∧ (QL Q (some (.long (SJ 99 (gj_n x1)))) SI SJ)
            have k6 := (((((h.1 c1).1 c2).1 c3).1 c4).1 c5).1
            refine ⟨k6, ?_⟩
            exact ⟨_, rfl, (((((h.1 c1).1 c2).1 c3).1 c4).1 c5).2⟩
          · have k7 := (((((h.1 c1).1 c2).1 c3).1 c4).2 c5).1
            refine ⟨k7, ?_⟩
            refine gj_goq gj_clT ok_248 [14, 34, 44, 47, 53, 66, 82, 89] ?_
            show QL Q (some (.long (SJ 98 (gj_n x1)))) SI SJ
            exact ⟨_, rfl, (((((h.1 c1).1 c2).1 c3).1 c4).2 c5).2⟩
        · have k8 := ((((h.1 c1).1 c2).1 c3).2 c4).1
          refine ⟨k8, ?_⟩
          refine gj_goq gj_clT ok_248 [14, 34, 44, 47, 53, 66, 82, 89] ?_
          show QL Q (some (.long (SJ 97 (gj_n x1)))) SI SJ
          exact ⟨_, rfl, ((((h.1 c1).1 c2).1 c3).2 c4).2⟩
      · refine gj_goq gj_clT ok_248 [14, 34, 44, 47, 53, 66, 82, 89] ?_
        show QL Q (some (.long (i6 (-9000000000000000000)))) SI SJ
        exact ⟨_, rfl, (((h.1 c1).1 c2).2 c3)⟩
    · exact ⟨_, rfl, ((h.1 c1).2 c2)⟩
  · exact (h.2 c1)
set_option maxRecDepth 20000 in
theorem lp_248_66 {E : gj_E} {Q : Int64 → gj_I → gj_J → Prop} (x1 : Int32) (x2 : Int32) (x3 : Int32) (x4 : Int32) (SI : gj_I) (SJ : gj_J) (h : ((SI 81 8) ≤ x4 → GoL E mt_248 53 [some (.ref 81), some (.int x1), some (.int x2), some (.int (x3 + (i3 1))), none] SI SJ Q) ∧ (¬ (SI 81 8) ≤ x4 → DoI E 241 [(.ref 81), (.int x3), (.int x4)] SI SJ (fun r1 SI2 SJ2 => (r1 = 0 → GoL E mt_248 66 [some (.ref 81), some (.int x1), some (.int x2), some (.int x3), some (.int (x4 + (i3 1)))] SI2 SJ2 Q) ∧ (¬ r1 = 0 → DoV E 247 [(.ref 81)] SI2 SJ2 (fun SI4 SJ4 => GoL E mt_248 66 [some (.ref 81), some (.int x1), some (.int x2), some (.int x3), some (.int (x4 + (i3 1)))] SI4 SJ4 Q))))) : GoL E mt_248 66 [some (.ref 81), some (.int x1), some (.int x2), some (.int x3), some (.int x4)] SI SJ Q := by
  refine gj_goq gj_clT ok_248 [14, 34, 44, 47, 53, 66, 82, 89] ?_
  show ((SI 81 8) ≤ x4 → gj_Goes E om0 mt_248 95 [some (.ref 81), some (.int x1), some (.int x2), some (.int x3), some (.int x4)] [] SI SJ (QL Q)) ∧ (¬ (SI 81 8) ≤ x4 → gj_Do E om0 (gj_mt 241) [(.ref 81), (.int x3), (.int x4)] SI SJ _)
  refine ⟨fun c1 => ?_, fun c1 => ?_⟩
  · refine gj_goq gj_clT ok_248 [14, 34, 44, 47, 53, 66, 82, 89] ?_
    show gj_Goes E om0 mt_248 53 [some (.ref 81), some (.int x1), some (.int x2), some (.int (x3 + (i3 1))), some (.int x4)] [] SI SJ (QL Q)
    exact gj_fh (h.1 c1) (And.intro (Or.inr rfl) (And.intro (Or.inr rfl) (And.intro (Or.inr rfl) (And.intro (Or.inr rfl) (And.intro (Or.inl rfl) trivial)))))
  · refine gj_Do.mono (h.2 c1) (fun v_ SI2 SJ2 h_ => ?_)
    obtain ⟨r1, rfl, q2⟩ := h_
    show gj_Goes E om0 mt_248 82 [some (.ref 81), some (.int x1), some (.int x2), some (.int x3), some (.int x4)] [(.int r1)] SI2 SJ2 (QL Q)
    refine gj_goq gj_clT ok_248 [14, 34, 44, 47, 53, 66, 82, 89] ?_
    show (r1 = 0 → gj_Goes E om0 mt_248 89 [some (.ref 81), some (.int x1), some (.int x2), some (.int x3), some (.int x4)] [] SI2 SJ2 (QL Q)) ∧ (¬ r1 = 0 → gj_Do E om0 (gj_mt 247) [(.ref 81)] SI2 SJ2 _)
    refine ⟨fun c3 => ?_, fun c3 => ?_⟩
    · refine gj_goq gj_clT ok_248 [14, 34, 44, 47, 53, 66, 82, 89] ?_
      show gj_Goes E om0 mt_248 66 [some (.ref 81), some (.int x1), some (.int x2), some (.int x3), some (.int (x4 + (i3 1)))] [] SI2 SJ2 (QL Q)
      exact (q2.1 c3)
    · refine gj_Do.mono (q2.2 c3) (fun v_ SI4 SJ4 h_ => ?_)
      obtain ⟨rfl, q4⟩ := h_
      show gj_Goes E om0 mt_248 89 [some (.ref 81), some (.int x1), some (.int x2), some (.int x3), some (.int x4)] [] SI4 SJ4 (QL Q)
      refine gj_goq gj_clT ok_248 [14, 34, 44, 47, 53, 66, 82, 89] ?_
      show gj_Goes E om0 mt_248 66 [some (.ref 81), some (.int x1), some (.int x2), some (.int x3), some (.int (x4 + (i3 1)))] [] SI4 SJ4 (QL Q)
      exact q4
set_option maxRecDepth 20000 in
/-- GraspJudgeModel.findsSide -/
theorem st_249 {E : gj_E} {Q : Int32 → gj_I → gj_J → Prop} (a1 : Int32) (a2 : Int32) (a3 : Int32) (SI : gj_I) (SJ : gj_J) (h : vp_in a2 16 ∧ (vp_in a1 16 ∧ (vp_in a3 16 ∧ (DoI E 188 [(.ref 81)] SI (gj_w2 (gj_w2 (gj_w2 SJ 81 9 ((((SJ 86 (gj_n a2)) - (SJ 86 (gj_n a1))) * ((SJ 87 (gj_n a3)) - (SJ 87 (gj_n a1)))) - (((SJ 87 (gj_n a2)) - (SJ 87 (gj_n a1))) * ((SJ 86 (gj_n a3)) - (SJ 86 (gj_n a1)))))) 81 10 ((((SJ 87 (gj_n a2)) - (SJ 87 (gj_n a1))) * ((SJ 85 (gj_n a3)) - (SJ 85 (gj_n a1)))) - (((SJ 85 (gj_n a2)) - (SJ 85 (gj_n a1))) * ((SJ 87 (gj_n a3)) - (SJ 87 (gj_n a1)))))) 81 11 ((((SJ 85 (gj_n a2)) - (SJ 85 (gj_n a1))) * ((SJ 86 (gj_n a3)) - (SJ 86 (gj_n a1)))) - (((SJ 86 (gj_n a2)) - (SJ 86 (gj_n a1))) * ((SJ 85 (gj_n a3)) - (SJ 85 (gj_n a1)))))) (fun r1 SI2 SJ2 => (r1 = 0 → DoV E 189 [(.ref 81)] SI2 SJ2 (fun SI4 SJ4 => DoL E 191 [(.ref 81), (.int a1)] SI4 SJ4 (fun r5 SI6 SJ6 => (r5 ≥ (i6 0) → DoL E 191 [(.ref 81), (.int a1)] SI6 SJ6 (fun r7 SI8 SJ8 => (¬ r7 = (i6 0) → GoI E mt_249 185 [some (.ref 81), none, none, none, none, none, none, none, none, none, none, none, none, none, none, none, some (.int (i3 0))] SI8 (gj_w2 SJ8 81 38 r7) Q) ∧ (r7 = (i6 0) → Q (i3 0) SI8 (gj_w2 SJ8 81 38 r7)))) ∧ (¬ r5 ≥ (i6 0) → DoV E 190 [(.ref 81)] SI6 SJ6 (fun SI10 SJ10 => DoL E 191 [(.ref 81), (.int a1)] SI10 SJ10 (fun r11 SI12 SJ12 => (¬ r11 = (i6 0) → GoI E mt_249 185 [some (.ref 81), none, none, none, none, none, none, none, none, none, none, none, none, none, none, none, some (.int (i3 0))] SI12 (gj_w2 SJ12 81 38 r11) Q) ∧ (r11 = (i6 0) → Q (i3 0) SI12 (gj_w2 SJ12 81 38 r11)))))))) ∧ (¬ r1 = 0 → Q (i3 0) SI2 SJ2)))))) : DoI E 249 [(.ref 81), (.int a1), (.int a2), (.int a3)] SI SJ Q := by
  refine gj_start (M := mt_249) ok_249 (Nat.le_of_ble_eq_true rfl) ?_
  refine gj_goq gj_clT ok_249 [15, 30, 45, 60, 75, 90, 139, 148, 153, 162, 168, 185, 200] ?_
  show vp_in a2 16 ∧ (vp_in a1 16 ∧ (gj_Goes E om0 mt_249 15 [some (.ref 81), some (.int a1), some (.int a2), some (.int a3), some (.long ((SJ 85 (gj_n a2)) - (SJ 85 (gj_n a1)))), none, none, none, none, none, none, none, none, none, none, none, none] [] SI SJ (QI Q)))
  have k1 := h.1
  refine ⟨k1, ?_⟩
  have k2 := h.2.1
  refine ⟨k2, ?_⟩
  refine gj_goq gj_clT ok_249 [15, 30, 45, 60, 75, 90, 139, 148, 153, 162, 168, 185, 200] ?_
  show vp_in a2 16 ∧ (vp_in a1 16 ∧ (gj_Goes E om0 mt_249 30 [some (.ref 81), some (.int a1), some (.int a2), some (.int a3), some (.long ((SJ 85 (gj_n a2)) - (SJ 85 (gj_n a1)))), none, some (.long ((SJ 86 (gj_n a2)) - (SJ 86 (gj_n a1)))), none, none, none, none, none, none, none, none, none, none] [] SI SJ (QI Q)))
  refine ⟨k1, ?_⟩
  refine ⟨k2, ?_⟩
  refine gj_goq gj_clT ok_249 [15, 30, 45, 60, 75, 90, 139, 148, 153, 162, 168, 185, 200] ?_
  show vp_in a2 16 ∧ (vp_in a1 16 ∧ (gj_Goes E om0 mt_249 45 [some (.ref 81), some (.int a1), some (.int a2), some (.int a3), some (.long ((SJ 85 (gj_n a2)) - (SJ 85 (gj_n a1)))), none, some (.long ((SJ 86 (gj_n a2)) - (SJ 86 (gj_n a1)))), none, some (.long ((SJ 87 (gj_n a2)) - (SJ 87 (gj_n a1)))), none, none, none, none, none, none, none, none] [] SI SJ (QI Q)))
  refine ⟨k1, ?_⟩
  refine ⟨k2, ?_⟩
  refine gj_goq gj_clT ok_249 [15, 30, 45, 60, 75, 90, 139, 148, 153, 162, 168, 185, 200] ?_
  show vp_in a3 16 ∧ (vp_in a1 16 ∧ (gj_Goes E om0 mt_249 60 [some (.ref 81), some (.int a1), some (.int a2), some (.int a3), some (.long ((SJ 85 (gj_n a2)) - (SJ 85 (gj_n a1)))), none, some (.long ((SJ 86 (gj_n a2)) - (SJ 86 (gj_n a1)))), none, some (.long ((SJ 87 (gj_n a2)) - (SJ 87 (gj_n a1)))), none, some (.long ((SJ 85 (gj_n a3)) - (SJ 85 (gj_n a1)))), none, none, none, none, none, none] [] SI SJ (QI Q)))
  have k3 := h.2.2.1
  refine ⟨k3, ?_⟩
  refine ⟨k2, ?_⟩
  refine gj_goq gj_clT ok_249 [15, 30, 45, 60, 75, 90, 139, 148, 153, 162, 168, 185, 200] ?_
  show vp_in a3 16 ∧ (vp_in a1 16 ∧ (gj_Goes E om0 mt_249 75 [some (.ref 81), some (.int a1), some (.int a2), some (.int a3), some (.long ((SJ 85 (gj_n a2)) - (SJ 85 (gj_n a1)))), none, some (.long ((SJ 86 (gj_n a2)) - (SJ 86 (gj_n a1)))), none, some (.long ((SJ 87 (gj_n a2)) - (SJ 87 (gj_n a1)))), none, some (.long ((SJ 85 (gj_n a3)) - (SJ 85 (gj_n a1)))), none, some (.long ((SJ 86 (gj_n a3)) - (SJ 86 (gj_n a1)))), none, none, none, none] [] SI SJ (QI Q)))
  refine ⟨k3, ?_⟩
  refine ⟨k2, ?_⟩
  refine gj_goq gj_clT ok_249 [15, 30, 45, 60, 75, 90, 139, 148, 153, 162, 168, 185, 200] ?_
  show vp_in a3 16 ∧ (vp_in a1 16 ∧ (gj_Goes E om0 mt_249 90 [some (.ref 81), some (.int a1), some (.int a2), some (.int a3), some (.long ((SJ 85 (gj_n a2)) - (SJ 85 (gj_n a1)))), none, some (.long ((SJ 86 (gj_n a2)) - (SJ 86 (gj_n a1)))), none, some (.long ((SJ 87 (gj_n a2)) - (SJ 87 (gj_n a1)))), none, some (.long ((SJ 85 (gj_n a3)) - (SJ 85 (gj_n a1)))), none, some (.long ((SJ 86 (gj_n a3)) - (SJ 86 (gj_n a1)))), none, some (.long ((SJ 87 (gj_n a3)) - (SJ 87 (gj_n a1)))), none, none] [] SI SJ (QI Q)))
  refine ⟨k3, ?_⟩
  refine ⟨k2, ?_⟩
  refine gj_goq gj_clT ok_249 [15, 30, 45, 60, 75, 90, 139, 148, 153, 162, 168, 185, 200] ?_
  show gj_Do E om0 (gj_mt 188) [(.ref 81)] SI (gj_w2 (gj_w2 (gj_w2 SJ 81 9 ((((SJ 86 (gj_n a2)) - (SJ 86 (gj_n a1))) * ((SJ 87 (gj_n a3)) - (SJ 87 (gj_n a1)))) - (((SJ 87 (gj_n a2)) - (SJ 87 (gj_n a1))) * ((SJ 86 (gj_n a3)) - (SJ 86 (gj_n a1)))))) 81 10 ((((SJ 87 (gj_n a2)) - (SJ 87 (gj_n a1))) * ((SJ 85 (gj_n a3)) - (SJ 85 (gj_n a1)))) - (((SJ 85 (gj_n a2)) - (SJ 85 (gj_n a1))) * ((SJ 87 (gj_n a3)) - (SJ 87 (gj_n a1)))))) 81 11 ((((SJ 85 (gj_n a2)) - (SJ 85 (gj_n a1))) * ((SJ 86 (gj_n a3)) - (SJ 86 (gj_n a1)))) - (((SJ 86 (gj_n a2)) - (SJ 86 (gj_n a1))) * ((SJ 85 (gj_n a3)) - (SJ 85 (gj_n a1)))))) _
  refine gj_Do.mono h.2.2.2 (fun v_ SI2 SJ2 h_ => ?_)
  obtain ⟨r1, rfl, q4⟩ := h_
  show gj_Goes E om0 mt_249 139 [some (.ref 81), some (.int a1), some (.int a2), some (.int a3), some (.long ((SJ 85 (gj_n a2)) - (SJ 85 (gj_n a1)))), none, some (.long ((SJ 86 (gj_n a2)) - (SJ 86 (gj_n a1)))), none, some (.long ((SJ 87 (gj_n a2)) - (SJ 87 (gj_n a1)))), none, some (.long ((SJ 85 (gj_n a3)) - (SJ 85 (gj_n a1)))), none, some (.long ((SJ 86 (gj_n a3)) - (SJ 86 (gj_n a1)))), none, some (.long ((SJ 87 (gj_n a3)) - (SJ 87 (gj_n a1)))), none, none] [(.int r1)] SI2 SJ2 (QI Q)
  refine gj_goq gj_clT ok_249 [15, 30, 45, 60, 75, 90, 139, 148, 153, 162, 168, 185, 200] ?_
  show (r1 = 0 → gj_Goes E om0 mt_249 144 [some (.ref 81), some (.int a1), some (.int a2), some (.int a3), some (.long ((SJ 85 (gj_n a2)) - (SJ 85 (gj_n a1)))), none, some (.long ((SJ 86 (gj_n a2)) - (SJ 86 (gj_n a1)))), none, some (.long ((SJ 87 (gj_n a2)) - (SJ 87 (gj_n a1)))), none, some (.long ((SJ 85 (gj_n a3)) - (SJ 85 (gj_n a1)))), none, some (.long ((SJ 86 (gj_n a3)) - (SJ 86 (gj_n a1)))), none, some (.long ((SJ 87 (gj_n a3)) - (SJ 87 (gj_n a1)))), none, none] [] SI2 SJ2 (QI Q)) ∧ (¬ r1 = 0 → ((i3 0) = 0 ∨ (i3 0) = 1) ∧ (QI Q (some (.int (i3 0))) SI2 SJ2))
  refine ⟨fun c5 => ?_, fun c5 => ?_⟩
  · refine gj_goq gj_clT ok_249 [15, 30, 45, 60, 75, 90, 139, 148, 153, 162, 168, 185, 200] ?_
    show gj_Do E om0 (gj_mt 189) [(.ref 81)] SI2 SJ2 _
    refine gj_Do.mono (q4.1 c5) (fun v_ SI4 SJ4 h_ => ?_)
    obtain ⟨rfl, q6⟩ := h_
    show gj_Goes E om0 mt_249 148 [some (.ref 81), some (.int a1), some (.int a2), some (.int a3), some (.long ((SJ 85 (gj_n a2)) - (SJ 85 (gj_n a1)))), none, some (.long ((SJ 86 (gj_n a2)) - (SJ 86 (gj_n a1)))), none, some (.long ((SJ 87 (gj_n a2)) - (SJ 87 (gj_n a1)))), none, some (.long ((SJ 85 (gj_n a3)) - (SJ 85 (gj_n a1)))), none, some (.long ((SJ 86 (gj_n a3)) - (SJ 86 (gj_n a1)))), none, some (.long ((SJ 87 (gj_n a3)) - (SJ 87 (gj_n a1)))), none, none] [] SI4 SJ4 (QI Q)
    refine gj_goq gj_clT ok_249 [15, 30, 45, 60, 75, 90, 139, 148, 153, 162, 168, 185, 200] ?_
    show gj_Do E om0 (gj_mt 191) [(.ref 81), (.int a1)] SI4 SJ4 _
    refine gj_Do.mono q6 (fun v_ SI6 SJ6 h_ => ?_)
    obtain ⟨r5, rfl, q7⟩ := h_
    show gj_Goes E om0 mt_249 153 [some (.ref 81), some (.int a1), some (.int a2), some (.int a3), some (.long ((SJ 85 (gj_n a2)) - (SJ 85 (gj_n a1)))), none, some (.long ((SJ 86 (gj_n a2)) - (SJ 86 (gj_n a1)))), none, some (.long ((SJ 87 (gj_n a2)) - (SJ 87 (gj_n a1)))), none, some (.long ((SJ 85 (gj_n a3)) - (SJ 85 (gj_n a1)))), none, some (.long ((SJ 86 (gj_n a3)) - (SJ 86 (gj_n a1)))), none, some (.long ((SJ 87 (gj_n a3)) - (SJ 87 (gj_n a1)))), none, none] [(.long r5)] SI6 SJ6 (QI Q)
    refine gj_goq gj_clT ok_249 [15, 30, 45, 60, 75, 90, 139, 148, 153, 162, 168, 185, 200] ?_
    show (0 ≤ (lg_cmp r5 (i6 0)) → gj_Goes E om0 mt_249 162 [some (.ref 81), some (.int a1), some (.int a2), some (.int a3), some (.long ((SJ 85 (gj_n a2)) - (SJ 85 (gj_n a1)))), none, some (.long ((SJ 86 (gj_n a2)) - (SJ 86 (gj_n a1)))), none, some (.long ((SJ 87 (gj_n a2)) - (SJ 87 (gj_n a1)))), none, some (.long ((SJ 85 (gj_n a3)) - (SJ 85 (gj_n a1)))), none, some (.long ((SJ 86 (gj_n a3)) - (SJ 86 (gj_n a1)))), none, some (.long ((SJ 87 (gj_n a3)) - (SJ 87 (gj_n a1)))), none, none] [] SI6 SJ6 (QI Q)) ∧ (¬ 0 ≤ (lg_cmp r5 (i6 0)) → gj_Do E om0 (gj_mt 190) [(.ref 81)] SI6 SJ6 _)
    refine ⟨fun c8 => ?_, fun c8 => ?_⟩
    · refine gj_goq gj_clT ok_249 [15, 30, 45, 60, 75, 90, 139, 148, 153, 162, 168, 185, 200] ?_
      show gj_Do E om0 (gj_mt 191) [(.ref 81), (.int a1)] SI6 SJ6 _
      refine gj_Do.mono (q7.1 (lgc_ge.mp c8)) (fun v_ SI8 SJ8 h_ => ?_)
      obtain ⟨r7, rfl, q9⟩ := h_
      show gj_Goes E om0 mt_249 168 [some (.ref 81), some (.int a1), some (.int a2), some (.int a3), some (.long ((SJ 85 (gj_n a2)) - (SJ 85 (gj_n a1)))), none, some (.long ((SJ 86 (gj_n a2)) - (SJ 86 (gj_n a1)))), none, some (.long ((SJ 87 (gj_n a2)) - (SJ 87 (gj_n a1)))), none, some (.long ((SJ 85 (gj_n a3)) - (SJ 85 (gj_n a1)))), none, some (.long ((SJ 86 (gj_n a3)) - (SJ 86 (gj_n a1)))), none, some (.long ((SJ 87 (gj_n a3)) - (SJ 87 (gj_n a1)))), none, none] [(.long r7), (.ref 81)] SI8 SJ8 (QI Q)
      refine gj_goq gj_clT ok_249 [15, 30, 45, 60, 75, 90, 139, 148, 153, 162, 168, 185, 200] ?_
      show (¬ (lg_cmp r7 (i6 0)) = 0 → gj_Goes E om0 mt_249 182 [some (.ref 81), some (.int a1), some (.int a2), some (.int a3), some (.long ((SJ 85 (gj_n a2)) - (SJ 85 (gj_n a1)))), none, some (.long ((SJ 86 (gj_n a2)) - (SJ 86 (gj_n a1)))), none, some (.long ((SJ 87 (gj_n a2)) - (SJ 87 (gj_n a1)))), none, some (.long ((SJ 85 (gj_n a3)) - (SJ 85 (gj_n a1)))), none, some (.long ((SJ 86 (gj_n a3)) - (SJ 86 (gj_n a1)))), none, some (.long ((SJ 87 (gj_n a3)) - (SJ 87 (gj_n a1)))), none, none] [] SI8 (gj_w2 SJ8 81 38 r7) (QI Q)) ∧ ((lg_cmp r7 (i6 0)) = 0 → ((i3 0) = 0 ∨ (i3 0) = 1) ∧ (QI Q (some (.int (i3 0))) SI8 (gj_w2 SJ8 81 38 r7)))
      refine ⟨fun c10 => ?_, fun c10 => ?_⟩
      · refine gj_goq gj_clT ok_249 [15, 30, 45, 60, 75, 90, 139, 148, 153, 162, 168, 185, 200] ?_
        show gj_Goes E om0 mt_249 185 [some (.ref 81), some (.int a1), some (.int a2), some (.int a3), some (.long ((SJ 85 (gj_n a2)) - (SJ 85 (gj_n a1)))), none, some (.long ((SJ 86 (gj_n a2)) - (SJ 86 (gj_n a1)))), none, some (.long ((SJ 87 (gj_n a2)) - (SJ 87 (gj_n a1)))), none, some (.long ((SJ 85 (gj_n a3)) - (SJ 85 (gj_n a1)))), none, some (.long ((SJ 86 (gj_n a3)) - (SJ 86 (gj_n a1)))), none, some (.long ((SJ 87 (gj_n a3)) - (SJ 87 (gj_n a1)))), none, some (.int (i3 0))] [] SI8 (gj_w2 SJ8 81 38 r7) (QI Q)
        exact gj_fh (q9.1 (fun z_ => c10 (lgc_eq.mpr z_))) (And.intro (Or.inr rfl) (And.intro (Or.inl rfl) (And.intro (Or.inl rfl) (And.intro (Or.inl rfl) (And.intro (Or.inl rfl) (And.intro (Or.inl rfl) (And.intro (Or.inl rfl) (And.intro (Or.inl rfl) (And.intro (Or.inl rfl) (And.intro (Or.inl rfl) (And.intro (Or.inl rfl) (And.intro (Or.inl rfl) (And.intro (Or.inl rfl) (And.intro (Or.inl rfl) (And.intro (Or.inl rfl) (And.intro (Or.inl rfl) (And.intro (Or.inr rfl) trivial)))))))))))))))))
      · refine ⟨(Or.inl rfl), ?_⟩
        exact ⟨_, rfl, (q9.2 (lgc_eq.mp c10))⟩
    · refine gj_Do.mono (q7.2 (fun z_ => c8 (lgc_ge.mpr z_))) (fun v_ SI10 SJ10 h_ => ?_)
      obtain ⟨rfl, q11⟩ := h_
      show gj_Goes E om0 mt_249 162 [some (.ref 81), some (.int a1), some (.int a2), some (.int a3), some (.long ((SJ 85 (gj_n a2)) - (SJ 85 (gj_n a1)))), none, some (.long ((SJ 86 (gj_n a2)) - (SJ 86 (gj_n a1)))), none, some (.long ((SJ 87 (gj_n a2)) - (SJ 87 (gj_n a1)))), none, some (.long ((SJ 85 (gj_n a3)) - (SJ 85 (gj_n a1)))), none, some (.long ((SJ 86 (gj_n a3)) - (SJ 86 (gj_n a1)))), none, some (.long ((SJ 87 (gj_n a3)) - (SJ 87 (gj_n a1)))), none, none] [] SI10 SJ10 (QI Q)
      refine gj_goq gj_clT ok_249 [15, 30, 45, 60, 75, 90, 139, 148, 153, 162, 168, 185, 200] ?_
      show gj_Do E om0 (gj_mt 191) [(.ref 81), (.int a1)] SI10 SJ10 _
      refine gj_Do.mono q11 (fun v_ SI12 SJ12 h_ => ?_)
      obtain ⟨r11, rfl, q12⟩ := h_
      show gj_Goes E om0 mt_249 168 [some (.ref 81), some (.int a1), some (.int a2), some (.int a3), some (.long ((SJ 85 (gj_n a2)) - (SJ 85 (gj_n a1)))), none, some (.long ((SJ 86 (gj_n a2)) - (SJ 86 (gj_n a1)))), none, some (.long ((SJ 87 (gj_n a2)) - (SJ 87 (gj_n a1)))), none, some (.long ((SJ 85 (gj_n a3)) - (SJ 85 (gj_n a1)))), none, some (.long ((SJ 86 (gj_n a3)) - (SJ 86 (gj_n a1)))), none, some (.long ((SJ 87 (gj_n a3)) - (SJ 87 (gj_n a1)))), none, none] [(.long r11), (.ref 81)] SI12 SJ12 (QI Q)
      refine gj_goq gj_clT ok_249 [15, 30, 45, 60, 75, 90, 139, 148, 153, 162, 168, 185, 200] ?_
      show (¬ (lg_cmp r11 (i6 0)) = 0 → gj_Goes E om0 mt_249 182 [some (.ref 81), some (.int a1), some (.int a2), some (.int a3), some (.long ((SJ 85 (gj_n a2)) - (SJ 85 (gj_n a1)))), none, some (.long ((SJ 86 (gj_n a2)) - (SJ 86 (gj_n a1)))), none, some (.long ((SJ 87 (gj_n a2)) - (SJ 87 (gj_n a1)))), none, some (.long ((SJ 85 (gj_n a3)) - (SJ 85 (gj_n a1)))), none, some (.long ((SJ 86 (gj_n a3)) - (SJ 86 (gj_n a1)))), none, some (.long ((SJ 87 (gj_n a3)) - (SJ 87 (gj_n a1)))), none, none] [] SI12 (gj_w2 SJ12 81 38 r11) (QI Q)) ∧ ((lg_cmp r11 (i6 0)) = 0 → ((i3 0) = 0 ∨ (i3 0) = 1) ∧ (QI Q (some (.int (i3 0))) SI12 (gj_w2 SJ12 81 38 r11)))
      refine ⟨fun c13 => ?_, fun c13 => ?_⟩
      · refine gj_goq gj_clT ok_249 [15, 30, 45, 60, 75, 90, 139, 148, 153, 162, 168, 185, 200] ?_
        show gj_Goes E om0 mt_249 185 [some (.ref 81), some (.int a1), some (.int a2), some (.int a3), some (.long ((SJ 85 (gj_n a2)) - (SJ 85 (gj_n a1)))), none, some (.long ((SJ 86 (gj_n a2)) - (SJ 86 (gj_n a1)))), none, some (.long ((SJ 87 (gj_n a2)) - (SJ 87 (gj_n a1)))), none, some (.long ((SJ 85 (gj_n a3)) - (SJ 85 (gj_n a1)))), none, some (.long ((SJ 86 (gj_n a3)) - (SJ 86 (gj_n a1)))), none, some (.long ((SJ 87 (gj_n a3)) - (SJ 87 (gj_n a1)))), none, some (.int (i3 0))] [] SI12 (gj_w2 SJ12 81 38 r11) (QI Q)
        exact gj_fh (q12.1 (fun z_ => c13 (lgc_eq.mpr z_))) (And.intro (Or.inr rfl) (And.intro (Or.inl rfl) (And.intro (Or.inl rfl) (And.intro (Or.inl rfl) (And.intro (Or.inl rfl) (And.intro (Or.inl rfl) (And.intro (Or.inl rfl) (And.intro (Or.inl rfl) (And.intro (Or.inl rfl) (And.intro (Or.inl rfl) (And.intro (Or.inl rfl) (And.intro (Or.inl rfl) (And.intro (Or.inl rfl) (And.intro (Or.inl rfl) (And.intro (Or.inl rfl) (And.intro (Or.inl rfl) (And.intro (Or.inr rfl) trivial)))))))))))))))))
      · refine ⟨(Or.inl rfl), ?_⟩
        exact ⟨_, rfl, (q12.2 (lgc_eq.mp c13))⟩
  · refine ⟨(Or.inl rfl), ?_⟩
    exact ⟨_, rfl, (q4.2 c5)⟩
set_option maxRecDepth 20000 in
theorem lp_249_185 {E : gj_E} {Q : Int32 → gj_I → gj_J → Prop} (x16 : Int32) (SI : gj_I) (SJ : gj_J) (h : ((SI 81 8) ≤ x16 → Q (i3 1) SI SJ) ∧ (¬ (SI 81 8) ≤ x16 → DoL E 191 [(.ref 81), (.int x16)] SI SJ (fun r1 SI2 SJ2 => (r1 ≤ (SJ2 81 38) → GoI E mt_249 185 [some (.ref 81), none, none, none, none, none, none, none, none, none, none, none, none, none, none, none, some (.int (x16 + (i3 1)))] SI2 SJ2 Q) ∧ (¬ r1 ≤ (SJ2 81 38) → Q (i3 0) SI2 SJ2)))) : GoI E mt_249 185 [some (.ref 81), none, none, none, none, none, none, none, none, none, none, none, none, none, none, none, some (.int x16)] SI SJ Q := by
  refine gj_goq gj_clT ok_249 [15, 30, 45, 60, 75, 90, 139, 148, 153, 162, 168, 185, 200] ?_
  show ((SI 81 8) ≤ x16 → gj_Goes E om0 mt_249 216 [some (.ref 81), none, none, none, none, none, none, none, none, none, none, none, none, none, none, none, some (.int x16)] [] SI SJ (QI Q)) ∧ (¬ (SI 81 8) ≤ x16 → gj_Do E om0 (gj_mt 191) [(.ref 81), (.int x16)] SI SJ _)
  refine ⟨fun c1 => ?_, fun c1 => ?_⟩
  · refine gj_goq gj_clT ok_249 [15, 30, 45, 60, 75, 90, 139, 148, 153, 162, 168, 185, 200] ?_
    show ((i3 1) = 0 ∨ (i3 1) = 1) ∧ (QI Q (some (.int (i3 1))) SI SJ)
    refine ⟨(Or.inr rfl), ?_⟩
    exact ⟨_, rfl, (h.1 c1)⟩
  · refine gj_Do.mono (h.2 c1) (fun v_ SI2 SJ2 h_ => ?_)
    obtain ⟨r1, rfl, q2⟩ := h_
    show gj_Goes E om0 mt_249 200 [some (.ref 81), none, none, none, none, none, none, none, none, none, none, none, none, none, none, none, some (.int x16)] [(.long r1)] SI2 SJ2 (QI Q)
    refine gj_goq gj_clT ok_249 [15, 30, 45, 60, 75, 90, 139, 148, 153, 162, 168, 185, 200] ?_
    show ((lg_cmp r1 (SJ2 81 38)) ≤ 0 → gj_Goes E om0 mt_249 210 [some (.ref 81), none, none, none, none, none, none, none, none, none, none, none, none, none, none, none, some (.int x16)] [] SI2 SJ2 (QI Q)) ∧ (¬ (lg_cmp r1 (SJ2 81 38)) ≤ 0 → ((i3 0) = 0 ∨ (i3 0) = 1) ∧ (QI Q (some (.int (i3 0))) SI2 SJ2))
    refine ⟨fun c3 => ?_, fun c3 => ?_⟩
    · refine gj_goq gj_clT ok_249 [15, 30, 45, 60, 75, 90, 139, 148, 153, 162, 168, 185, 200] ?_
      show gj_Goes E om0 mt_249 185 [some (.ref 81), none, none, none, none, none, none, none, none, none, none, none, none, none, none, none, some (.int (x16 + (i3 1)))] [] SI2 SJ2 (QI Q)
      exact (q2.1 (lgc_le.mp c3))
    · refine ⟨(Or.inl rfl), ?_⟩
      exact ⟨_, rfl, (q2.2 (fun z_ => c3 (lgc_le.mpr z_)))⟩
set_option maxRecDepth 20000 in
/-- GraspJudgeModel.isKnown -/
theorem st_250 {E : gj_E} {Q : Int32 → gj_I → gj_J → Prop} (SI : gj_I) (SJ : gj_J) (h : GoI E mt_250 2 [some (.ref 81), some (.int (i3 0))] SI SJ Q) : DoI E 250 [(.ref 81)] SI SJ Q := by
  refine gj_start (M := mt_250) ok_250 (Nat.le_of_ble_eq_true rfl) ?_
  refine gj_goq gj_clT ok_250 [2] ?_
  show gj_Goes E om0 mt_250 2 [some (.ref 81), some (.int (i3 0))] [] SI SJ (QI Q)
  exact h
set_option maxRecDepth 20000 in
theorem lp_250_2 {E : gj_E} {Q : Int32 → gj_I → gj_J → Prop} (x1 : Int32) (SI : gj_I) (SJ : gj_J) (h : ((SI 81 48) ≤ x1 → Q (i3 0) SI SJ) ∧ (¬ (SI 81 48) ≤ x1 → vp_in x1 400 ∧ ((¬ (SJ 100 (gj_n x1)) = (SJ 81 9) → GoI E mt_250 2 [some (.ref 81), some (.int (x1 + (i3 1)))] SI SJ Q) ∧ ((SJ 100 (gj_n x1)) = (SJ 81 9) → (¬ (SJ 101 (gj_n x1)) = (SJ 81 10) → GoI E mt_250 2 [some (.ref 81), some (.int (x1 + (i3 1)))] SI SJ Q) ∧ ((SJ 101 (gj_n x1)) = (SJ 81 10) → (¬ (SJ 102 (gj_n x1)) = (SJ 81 11) → GoI E mt_250 2 [some (.ref 81), some (.int (x1 + (i3 1)))] SI SJ Q) ∧ ((SJ 102 (gj_n x1)) = (SJ 81 11) → Q (i3 1) SI SJ)))))) : GoI E mt_250 2 [some (.ref 81), some (.int x1)] SI SJ Q := by
  refine gj_goq gj_clT ok_250 [2] ?_
  show ((SI 81 48) ≤ x1 → gj_Goes E om0 mt_250 60 [some (.ref 81), some (.int x1)] [] SI SJ (QI Q)) ∧ (¬ (SI 81 48) ≤ x1 → vp_in x1 400 ∧ ((¬ (lg_cmp (SJ 100 (gj_n x1)) (SJ 81 9)) = 0 → gj_Goes E om0 mt_250 54 [some (.ref 81), some (.int x1)] [] SI SJ (QI Q)) ∧ ((lg_cmp (SJ 100 (gj_n x1)) (SJ 81 9)) = 0 → vp_in x1 400 ∧ ((¬ (lg_cmp (SJ 101 (gj_n x1)) (SJ 81 10)) = 0 → gj_Goes E om0 mt_250 54 [some (.ref 81), some (.int x1)] [] SI SJ (QI Q)) ∧ ((lg_cmp (SJ 101 (gj_n x1)) (SJ 81 10)) = 0 → vp_in x1 400 ∧ ((¬ (lg_cmp (SJ 102 (gj_n x1)) (SJ 81 11)) = 0 → gj_Goes E om0 mt_250 54 [some (.ref 81), some (.int x1)] [] SI SJ (QI Q)) ∧ ((lg_cmp (SJ 102 (gj_n x1)) (SJ 81 11)) = 0 → ((i3 1) = 0 ∨ (i3 1) = 1) ∧ (QI Q (some (.int (i3 1))) SI SJ))))))))
  refine ⟨fun c1 => ?_, fun c1 => ?_⟩
  · refine gj_goq gj_clT ok_250 [2] ?_
    show ((i3 0) = 0 ∨ (i3 0) = 1) ∧ (QI Q (some (.int (i3 0))) SI SJ)
    refine ⟨(Or.inl rfl), ?_⟩
    exact ⟨_, rfl, (h.1 c1)⟩
  · have k2 := (h.2 c1).1
    refine ⟨k2, ?_⟩
    refine ⟨fun c3 => ?_, fun c3 => ?_⟩
    · refine gj_goq gj_clT ok_250 [2] ?_
      show gj_Goes E om0 mt_250 2 [some (.ref 81), some (.int (x1 + (i3 1)))] [] SI SJ (QI Q)
      exact ((h.2 c1).2.1 (fun z_ => c3 (lgc_eq.mpr z_)))
    · refine ⟨k2, ?_⟩
      refine ⟨fun c4 => ?_, fun c4 => ?_⟩
      · refine gj_goq gj_clT ok_250 [2] ?_
        show gj_Goes E om0 mt_250 2 [some (.ref 81), some (.int (x1 + (i3 1)))] [] SI SJ (QI Q)
        exact (((h.2 c1).2.2 (lgc_eq.mp c3)).1 (fun z_ => c4 (lgc_eq.mpr z_)))
      · refine ⟨k2, ?_⟩
        refine ⟨fun c5 => ?_, fun c5 => ?_⟩
        · refine gj_goq gj_clT ok_250 [2] ?_
          show gj_Goes E om0 mt_250 2 [some (.ref 81), some (.int (x1 + (i3 1)))] [] SI SJ (QI Q)
          exact ((((h.2 c1).2.2 (lgc_eq.mp c3)).2 (lgc_eq.mp c4)).1 (fun z_ => c5 (lgc_eq.mpr z_)))
        · refine ⟨(Or.inr rfl), ?_⟩
          exact ⟨_, rfl, ((((h.2 c1).2.2 (lgc_eq.mp c3)).2 (lgc_eq.mp c4)).2 (lgc_eq.mp c5))⟩
set_option maxRecDepth 20000 in
/-- GraspJudgeModel.isWeaker -/
theorem st_251 {E : gj_E} {Q : Int32 → gj_I → gj_J → Prop} (SI : gj_I) (SJ : gj_J) (h : (¬ (SI 81 48) = 0 → DoL E 158 [(.long (SJ 81 9))] SI SJ (fun r1 SI2 SJ2 => DoL E 158 [(.long (SJ2 81 10))] SI2 SJ2 (fun r3 SI4 SJ4 => DoL E 158 [(.long (SJ4 81 11))] SI4 SJ4 (fun r5 SI6 SJ6 => ((((SJ6 81 38) * (SJ6 81 44)) - ((SJ6 81 43) * ((r1 + r3) + r5))) = (i6 0) → ((SJ6 81 9) = (SJ6 81 40) → ((SJ6 81 10) = (SJ6 81 41) → ((SJ6 81 11) ≥ (SJ6 81 42) → Q (i3 0) SI6 SJ6) ∧ (¬ (SJ6 81 11) ≥ (SJ6 81 42) → Q (i3 1) SI6 SJ6)) ∧ (¬ (SJ6 81 10) = (SJ6 81 41) → ((SJ6 81 10) ≥ (SJ6 81 41) → Q (i3 0) SI6 SJ6) ∧ (¬ (SJ6 81 10) ≥ (SJ6 81 41) → Q (i3 1) SI6 SJ6))) ∧ (¬ (SJ6 81 9) = (SJ6 81 40) → ((SJ6 81 9) ≥ (SJ6 81 40) → Q (i3 0) SI6 SJ6) ∧ (¬ (SJ6 81 9) ≥ (SJ6 81 40) → Q (i3 1) SI6 SJ6))) ∧ (¬ (((SJ6 81 38) * (SJ6 81 44)) - ((SJ6 81 43) * ((r1 + r3) + r5))) = (i6 0) → ((((SJ6 81 38) * (SJ6 81 44)) - ((SJ6 81 43) * ((r1 + r3) + r5))) ≥ (i6 0) → Q (i3 0) SI6 SJ6) ∧ (¬ (((SJ6 81 38) * (SJ6 81 44)) - ((SJ6 81 43) * ((r1 + r3) + r5))) ≥ (i6 0) → Q (i3 1) SI6 SJ6)))))) ∧ ((SI 81 48) = 0 → Q (i3 1) SI SJ)) : DoI E 251 [(.ref 81)] SI SJ Q := by
  refine gj_start (M := mt_251) ok_251 (Nat.le_of_ble_eq_true rfl) ?_
  refine gj_goq gj_clT ok_251 [16, 23, 31] ?_
  show (¬ (SI 81 48) = 0 → gj_Goes E om0 mt_251 9 [some (.ref 81), none, none, none, none] [] SI SJ (QI Q)) ∧ ((SI 81 48) = 0 → ((i3 1) = 0 ∨ (i3 1) = 1) ∧ (QI Q (some (.int (i3 1))) SI SJ))
  refine ⟨fun c1 => ?_, fun c1 => ?_⟩
  · refine gj_goq gj_clT ok_251 [16, 23, 31] ?_
    show gj_Do E om0 (gj_mt 158) [(.long (SJ 81 9))] SI SJ _
    refine gj_Do.mono (h.1 c1) (fun v_ SI2 SJ2 h_ => ?_)
    obtain ⟨r1, rfl, q2⟩ := h_
    show gj_Goes E om0 mt_251 16 [some (.ref 81), none, none, none, none] [(.long r1)] SI2 SJ2 (QI Q)
    refine gj_goq gj_clT ok_251 [16, 23, 31] ?_
    show gj_Do E om0 (gj_mt 158) [(.long (SJ2 81 10))] SI2 SJ2 _
    refine gj_Do.mono q2 (fun v_ SI4 SJ4 h_ => ?_)
    obtain ⟨r3, rfl, q3⟩ := h_
    show gj_Goes E om0 mt_251 23 [some (.ref 81), none, none, none, none] [(.long r3), (.long r1)] SI4 SJ4 (QI Q)
    refine gj_goq gj_clT ok_251 [16, 23, 31] ?_
    show gj_Do E om0 (gj_mt 158) [(.long (SJ4 81 11))] SI4 SJ4 _
    refine gj_Do.mono q3 (fun v_ SI6 SJ6 h_ => ?_)
    obtain ⟨r5, rfl, q4⟩ := h_
    show gj_Goes E om0 mt_251 31 [some (.ref 81), none, none, none, none] [(.long r5), (.long (r1 + r3))] SI6 SJ6 (QI Q)
    refine gj_goq gj_clT ok_251 [16, 23, 31] ?_
    show ((lg_cmp (((SJ6 81 38) * (SJ6 81 44)) - ((SJ6 81 43) * ((r1 + r3) + r5))) (i6 0)) = 0 → gj_Goes E om0 mt_251 68 [some (.ref 81), some (.long ((r1 + r3) + r5)), none, some (.long (((SJ6 81 38) * (SJ6 81 44)) - ((SJ6 81 43) * ((r1 + r3) + r5)))), none] [] SI6 SJ6 (QI Q)) ∧ (¬ (lg_cmp (((SJ6 81 38) * (SJ6 81 44)) - ((SJ6 81 43) * ((r1 + r3) + r5))) (i6 0)) = 0 → (0 ≤ (lg_cmp (((SJ6 81 38) * (SJ6 81 44)) - ((SJ6 81 43) * ((r1 + r3) + r5))) (i6 0)) → gj_Goes E om0 mt_251 66 [some (.ref 81), some (.long ((r1 + r3) + r5)), none, some (.long (((SJ6 81 38) * (SJ6 81 44)) - ((SJ6 81 43) * ((r1 + r3) + r5)))), none] [] SI6 SJ6 (QI Q)) ∧ (¬ 0 ≤ (lg_cmp (((SJ6 81 38) * (SJ6 81 44)) - ((SJ6 81 43) * ((r1 + r3) + r5))) (i6 0)) → gj_Goes E om0 mt_251 67 [some (.ref 81), some (.long ((r1 + r3) + r5)), none, some (.long (((SJ6 81 38) * (SJ6 81 44)) - ((SJ6 81 43) * ((r1 + r3) + r5)))), none] [(.int (i3 1))] SI6 SJ6 (QI Q)))
    refine ⟨fun c5 => ?_, fun c5 => ?_⟩
    · refine gj_goq gj_clT ok_251 [16, 23, 31] ?_
      show ((lg_cmp (SJ6 81 9) (SJ6 81 40)) = 0 → gj_Goes E om0 mt_251 100 [some (.ref 81), some (.long ((r1 + r3) + r5)), none, some (.long (((SJ6 81 38) * (SJ6 81 44)) - ((SJ6 81 43) * ((r1 + r3) + r5)))), none] [] SI6 SJ6 (QI Q)) ∧ (¬ (lg_cmp (SJ6 81 9) (SJ6 81 40)) = 0 → (0 ≤ (lg_cmp (SJ6 81 9) (SJ6 81 40)) → gj_Goes E om0 mt_251 96 [some (.ref 81), some (.long ((r1 + r3) + r5)), none, some (.long (((SJ6 81 38) * (SJ6 81 44)) - ((SJ6 81 43) * ((r1 + r3) + r5)))), none] [] SI6 SJ6 (QI Q)) ∧ (¬ 0 ≤ (lg_cmp (SJ6 81 9) (SJ6 81 40)) → gj_Goes E om0 mt_251 149 [some (.ref 81), some (.long ((r1 + r3) + r5)), none, some (.long (((SJ6 81 38) * (SJ6 81 44)) - ((SJ6 81 43) * ((r1 + r3) + r5)))), none] [(.int (i3 1))] SI6 SJ6 (QI Q)))
      refine ⟨fun c6 => ?_, fun c6 => ?_⟩
      · refine gj_goq gj_clT ok_251 [16, 23, 31] ?_
        show ((lg_cmp (SJ6 81 10) (SJ6 81 41)) = 0 → gj_Goes E om0 mt_251 132 [some (.ref 81), some (.long ((r1 + r3) + r5)), none, some (.long (((SJ6 81 38) * (SJ6 81 44)) - ((SJ6 81 43) * ((r1 + r3) + r5)))), none] [] SI6 SJ6 (QI Q)) ∧ (¬ (lg_cmp (SJ6 81 10) (SJ6 81 41)) = 0 → (0 ≤ (lg_cmp (SJ6 81 10) (SJ6 81 41)) → gj_Goes E om0 mt_251 128 [some (.ref 81), some (.long ((r1 + r3) + r5)), none, some (.long (((SJ6 81 38) * (SJ6 81 44)) - ((SJ6 81 43) * ((r1 + r3) + r5)))), none] [] SI6 SJ6 (QI Q)) ∧ (¬ 0 ≤ (lg_cmp (SJ6 81 10) (SJ6 81 41)) → gj_Goes E om0 mt_251 149 [some (.ref 81), some (.long ((r1 + r3) + r5)), none, some (.long (((SJ6 81 38) * (SJ6 81 44)) - ((SJ6 81 43) * ((r1 + r3) + r5)))), none] [(.int (i3 1))] SI6 SJ6 (QI Q)))
        refine ⟨fun c7 => ?_, fun c7 => ?_⟩
        · refine gj_goq gj_clT ok_251 [16, 23, 31] ?_
          show (0 ≤ (lg_cmp (SJ6 81 11) (SJ6 81 42)) → gj_Goes E om0 mt_251 148 [some (.ref 81), some (.long ((r1 + r3) + r5)), none, some (.long (((SJ6 81 38) * (SJ6 81 44)) - ((SJ6 81 43) * ((r1 + r3) + r5)))), none] [] SI6 SJ6 (QI Q)) ∧ (¬ 0 ≤ (lg_cmp (SJ6 81 11) (SJ6 81 42)) → gj_Goes E om0 mt_251 149 [some (.ref 81), some (.long ((r1 + r3) + r5)), none, some (.long (((SJ6 81 38) * (SJ6 81 44)) - ((SJ6 81 43) * ((r1 + r3) + r5)))), none] [(.int (i3 1))] SI6 SJ6 (QI Q))
          refine ⟨fun c8 => ?_, fun c8 => ?_⟩
          · refine gj_goq gj_clT ok_251 [16, 23, 31] ?_
            show ((i3 0) = 0 ∨ (i3 0) = 1) ∧ (QI Q (some (.int (i3 0))) SI6 SJ6)
            refine ⟨(Or.inl rfl), ?_⟩
            exact ⟨_, rfl, ((((q4.1 (lgc_eq.mp c5)).1 (lgc_eq.mp c6)).1 (lgc_eq.mp c7)).1 (lgc_ge.mp c8))⟩
          · refine gj_goq gj_clT ok_251 [16, 23, 31] ?_
            show ((i3 1) = 0 ∨ (i3 1) = 1) ∧ (QI Q (some (.int (i3 1))) SI6 SJ6)
            refine ⟨(Or.inr rfl), ?_⟩
            exact ⟨_, rfl, ((((q4.1 (lgc_eq.mp c5)).1 (lgc_eq.mp c6)).1 (lgc_eq.mp c7)).2 (fun z_ => c8 (lgc_ge.mpr z_)))⟩
        · refine ⟨fun c9 => ?_, fun c9 => ?_⟩
          · refine gj_goq gj_clT ok_251 [16, 23, 31] ?_
            show gj_Goes E om0 mt_251 149 [some (.ref 81), some (.long ((r1 + r3) + r5)), none, some (.long (((SJ6 81 38) * (SJ6 81 44)) - ((SJ6 81 43) * ((r1 + r3) + r5)))), none] [(.int (i3 0))] SI6 SJ6 (QI Q)
            refine gj_goq gj_clT ok_251 [16, 23, 31] ?_
            show ((i3 0) = 0 ∨ (i3 0) = 1) ∧ (QI Q (some (.int (i3 0))) SI6 SJ6)
            refine ⟨(Or.inl rfl), ?_⟩
            exact ⟨_, rfl, ((((q4.1 (lgc_eq.mp c5)).1 (lgc_eq.mp c6)).2 (fun z_ => c7 (lgc_eq.mpr z_))).1 (lgc_ge.mp c9))⟩
          · refine gj_goq gj_clT ok_251 [16, 23, 31] ?_
            show ((i3 1) = 0 ∨ (i3 1) = 1) ∧ (QI Q (some (.int (i3 1))) SI6 SJ6)
            refine ⟨(Or.inr rfl), ?_⟩
            exact ⟨_, rfl, ((((q4.1 (lgc_eq.mp c5)).1 (lgc_eq.mp c6)).2 (fun z_ => c7 (lgc_eq.mpr z_))).2 (fun z_ => c9 (lgc_ge.mpr z_)))⟩
      · refine ⟨fun c10 => ?_, fun c10 => ?_⟩
        · refine gj_goq gj_clT ok_251 [16, 23, 31] ?_
          show gj_Goes E om0 mt_251 149 [some (.ref 81), some (.long ((r1 + r3) + r5)), none, some (.long (((SJ6 81 38) * (SJ6 81 44)) - ((SJ6 81 43) * ((r1 + r3) + r5)))), none] [(.int (i3 0))] SI6 SJ6 (QI Q)
          refine gj_goq gj_clT ok_251 [16, 23, 31] ?_
          show ((i3 0) = 0 ∨ (i3 0) = 1) ∧ (QI Q (some (.int (i3 0))) SI6 SJ6)
          refine ⟨(Or.inl rfl), ?_⟩
          exact ⟨_, rfl, (((q4.1 (lgc_eq.mp c5)).2 (fun z_ => c6 (lgc_eq.mpr z_))).1 (lgc_ge.mp c10))⟩
        · refine gj_goq gj_clT ok_251 [16, 23, 31] ?_
          show ((i3 1) = 0 ∨ (i3 1) = 1) ∧ (QI Q (some (.int (i3 1))) SI6 SJ6)
          refine ⟨(Or.inr rfl), ?_⟩
          exact ⟨_, rfl, (((q4.1 (lgc_eq.mp c5)).2 (fun z_ => c6 (lgc_eq.mpr z_))).2 (fun z_ => c10 (lgc_ge.mpr z_)))⟩
    · refine ⟨fun c11 => ?_, fun c11 => ?_⟩
      · refine gj_goq gj_clT ok_251 [16, 23, 31] ?_
        show ((i3 0) = 0 ∨ (i3 0) = 1) ∧ (QI Q (some (.int (i3 0))) SI6 SJ6)
        refine ⟨(Or.inl rfl), ?_⟩
        exact ⟨_, rfl, ((q4.2 (fun z_ => c5 (lgc_eq.mpr z_))).1 (lgc_ge.mp c11))⟩
      · refine gj_goq gj_clT ok_251 [16, 23, 31] ?_
        show ((i3 1) = 0 ∨ (i3 1) = 1) ∧ (QI Q (some (.int (i3 1))) SI6 SJ6)
        refine ⟨(Or.inr rfl), ?_⟩
        exact ⟨_, rfl, ((q4.2 (fun z_ => c5 (lgc_eq.mpr z_))).2 (fun z_ => c11 (lgc_ge.mpr z_)))⟩
  · refine ⟨(Or.inr rfl), ?_⟩
    exact ⟨_, rfl, (h.2 c1)⟩
set_option maxRecDepth 20000 in
/-- GraspJudgeModel.takesSide -/
theorem st_252 {E : gj_E} {Q : gj_I → gj_J → Prop} (SI : gj_I) (SJ : gj_J) (h : DoI E 251 [(.ref 81)] SI SJ (fun r1 SI2 SJ2 => (r1 = 0 → vp_in (SI2 81 48) 400 ∧ (Q (gj_u2 SI2 81 48 ((SI2 81 48) + (i3 1))) (gj_w2 (gj_w2 (gj_w2 SJ2 100 (gj_n (SI2 81 48)) (SJ2 81 9)) 101 (gj_n (SI2 81 48)) (SJ2 81 10)) 102 (gj_n (SI2 81 48)) (SJ2 81 11)))) ∧ (¬ r1 = 0 → DoL E 158 [(.long (SJ2 81 9))] SI2 SJ2 (fun r3 SI4 SJ4 => DoL E 158 [(.long (SJ4 81 10))] SI4 SJ4 (fun r5 SI6 SJ6 => DoL E 158 [(.long (SJ6 81 11))] SI6 SJ6 (fun r7 SI8 SJ8 => DoL E 161 [(.long (SJ8 81 38)), (.long ((r3 + r5) + r7))] SI8 SJ8 (fun r9 SI10 SJ10 => ¬ r9 = 0 ∧ (vp_in (SI10 81 48) 400 ∧ (Q (gj_u2 SI10 81 48 ((SI10 81 48) + (i3 1))) (gj_w2 (gj_w2 (gj_w2 (gj_w2 (gj_w2 (gj_w2 (gj_w2 (gj_w2 (gj_w2 SJ10 81 43 ((SJ10 81 38) / r9)) 81 44 (((r3 + r5) + r7) / r9)) 81 40 (SJ10 81 9)) 81 41 (SJ10 81 10)) 81 42 (SJ10 81 11)) 81 39 (SJ10 81 38)) 100 (gj_n (SI10 81 48)) (SJ10 81 9)) 101 (gj_n (SI10 81 48)) (SJ10 81 10)) 102 (gj_n (SI10 81 48)) (SJ10 81 11))))))))))) : DoV E 252 [(.ref 81)] SI SJ Q := by
  refine gj_start (M := mt_252) ok_252 (Nat.le_of_ble_eq_true rfl) ?_
  refine gj_goq gj_clT ok_252 [4, 14, 21, 29, 39] ?_
  show gj_Do E om0 (gj_mt 251) [(.ref 81)] SI SJ _
  refine gj_Do.mono h (fun v_ SI2 SJ2 h_ => ?_)
  obtain ⟨r1, rfl, q1⟩ := h_
  show gj_Goes E om0 mt_252 4 [some (.ref 81), none, none, none, none] [(.int r1)] SI2 SJ2 (QV Q)
  refine gj_goq gj_clT ok_252 [4, 14, 21, 29, 39] ?_
  show (r1 = 0 → gj_Goes E om0 mt_252 89 [some (.ref 81), none, none, none, none] [] SI2 SJ2 (QV Q)) ∧ (¬ r1 = 0 → gj_Do E om0 (gj_mt 158) [(.long (SJ2 81 9))] SI2 SJ2 _)
  refine ⟨fun c2 => ?_, fun c2 => ?_⟩
  · refine gj_goq gj_clT ok_252 [4, 14, 21, 29, 39] ?_
    show vp_in (SI2 81 48) 400 ∧ (vp_in (SI2 81 48) 400 ∧ (vp_in (SI2 81 48) 400 ∧ (QV Q none (gj_u2 SI2 81 48 ((SI2 81 48) + (i3 1))) (gj_w2 (gj_w2 (gj_w2 SJ2 100 (gj_n (SI2 81 48)) (SJ2 81 9)) 101 (gj_n (SI2 81 48)) (SJ2 81 10)) 102 (gj_n (SI2 81 48)) (SJ2 81 11)))))
    have k3 := (q1.1 c2).1
    refine ⟨k3, ?_⟩
    refine ⟨k3, ?_⟩
    refine ⟨k3, ?_⟩
    exact ⟨rfl, (q1.1 c2).2⟩
  · refine gj_Do.mono (q1.2 c2) (fun v_ SI4 SJ4 h_ => ?_)
    obtain ⟨r3, rfl, q4⟩ := h_
    show gj_Goes E om0 mt_252 14 [some (.ref 81), none, none, none, none] [(.long r3)] SI4 SJ4 (QV Q)
    refine gj_goq gj_clT ok_252 [4, 14, 21, 29, 39] ?_
    show gj_Do E om0 (gj_mt 158) [(.long (SJ4 81 10))] SI4 SJ4 _
    refine gj_Do.mono q4 (fun v_ SI6 SJ6 h_ => ?_)
    obtain ⟨r5, rfl, q5⟩ := h_
    show gj_Goes E om0 mt_252 21 [some (.ref 81), none, none, none, none] [(.long r5), (.long r3)] SI6 SJ6 (QV Q)
    refine gj_goq gj_clT ok_252 [4, 14, 21, 29, 39] ?_
    show gj_Do E om0 (gj_mt 158) [(.long (SJ6 81 11))] SI6 SJ6 _
    refine gj_Do.mono q5 (fun v_ SI8 SJ8 h_ => ?_)
    obtain ⟨r7, rfl, q6⟩ := h_
    show gj_Goes E om0 mt_252 29 [some (.ref 81), none, none, none, none] [(.long r7), (.long (r3 + r5))] SI8 SJ8 (QV Q)
    refine gj_goq gj_clT ok_252 [4, 14, 21, 29, 39] ?_
    show gj_Do E om0 (gj_mt 161) [(.long (SJ8 81 38)), (.long ((r3 + r5) + r7))] SI8 SJ8 _
    refine gj_Do.mono q6 (fun v_ SI10 SJ10 h_ => ?_)
    obtain ⟨r9, rfl, q7⟩ := h_
    show gj_Goes E om0 mt_252 39 [some (.ref 81), some (.long ((r3 + r5) + r7)), none, none, none] [(.long r9)] SI10 SJ10 (QV Q)
    refine gj_goq gj_clT ok_252 [4, 14, 21, 29, 39] ?_
    show ¬ r9 = 0 ∧ (¬ r9 = 0 ∧ (vp_in (SI10 81 48) 400 ∧ (vp_in (SI10 81 48) 400 ∧ (vp_in (SI10 81 48) 400 ∧ (QV Q none (gj_u2 SI10 81 48 ((SI10 81 48) + (i3 1))) (gj_w2 (gj_w2 (gj_w2 (gj_w2 (gj_w2 (gj_w2 (gj_w2 (gj_w2 (gj_w2 SJ10 81 43 ((SJ10 81 38) / r9)) 81 44 (((r3 + r5) + r7) / r9)) 81 40 (SJ10 81 9)) 81 41 (SJ10 81 10)) 81 42 (SJ10 81 11)) 81 39 (SJ10 81 38)) 100 (gj_n (SI10 81 48)) (SJ10 81 9)) 101 (gj_n (SI10 81 48)) (SJ10 81 10)) 102 (gj_n (SI10 81 48)) (SJ10 81 11)))))))
    have k8 := q7.1
    refine ⟨k8, ?_⟩
    refine ⟨k8, ?_⟩
    have k9 := q7.2.1
    refine ⟨k9, ?_⟩
    refine ⟨k9, ?_⟩
    refine ⟨k9, ?_⟩
    exact ⟨rfl, q7.2.2⟩
set_option maxRecDepth 20000 in
/-- GraspJudgeModel.findsSides -/
theorem st_253 {E : gj_E} {Q : gj_I → gj_J → Prop} (SI : gj_I) (SJ : gj_J) (h : GoV E mt_253 7 [some (.ref 81), some (.int (i3 0)), none, none] (gj_u2 SI 81 48 (i3 0)) SJ Q) : DoV E 253 [(.ref 81)] SI SJ Q := by
  refine gj_start (M := mt_253) ok_253 (Nat.le_of_ble_eq_true rfl) ?_
  refine gj_goq gj_clT ok_253 [7, 19, 31, 46, 53, 60] ?_
  show gj_Goes E om0 mt_253 7 [some (.ref 81), some (.int (i3 0)), none, none] [] (gj_u2 SI 81 48 (i3 0)) SJ (QV Q)
  exact h
set_option maxRecDepth 20000 in
theorem lp_253_7 {E : gj_E} {Q : gj_I → gj_J → Prop} (x1 : Int32) (SI : gj_I) (SJ : gj_J) (h : ((SI 81 8) ≤ x1 → Q SI SJ) ∧ (¬ (SI 81 8) ≤ x1 → GoV E mt_253 19 [some (.ref 81), some (.int x1), some (.int (x1 + (i3 1))), none] SI SJ Q)) : GoV E mt_253 7 [some (.ref 81), some (.int x1), none, none] SI SJ Q := by
  refine gj_goq gj_clT ok_253 [7, 19, 31, 46, 53, 60] ?_
  show ((SI 81 8) ≤ x1 → gj_Goes E om0 mt_253 78 [some (.ref 81), some (.int x1), none, none] [] SI SJ (QV Q)) ∧ (¬ (SI 81 8) ≤ x1 → gj_Goes E om0 mt_253 19 [some (.ref 81), some (.int x1), some (.int (x1 + (i3 1))), none] [] SI SJ (QV Q))
  refine ⟨fun c1 => ?_, fun c1 => ?_⟩
  · refine gj_goq gj_clT ok_253 [7, 19, 31, 46, 53, 60] ?_
    show QV Q none SI SJ
    exact ⟨rfl, (h.1 c1)⟩
  · exact (h.2 c1)
set_option maxRecDepth 20000 in
theorem lp_253_19 {E : gj_E} {Q : gj_I → gj_J → Prop} (x1 : Int32) (x2 : Int32) (SI : gj_I) (SJ : gj_J) (h : ((SI 81 8) ≤ x2 → GoV E mt_253 7 [some (.ref 81), some (.int (x1 + (i3 1))), none, none] SI SJ Q) ∧ (¬ (SI 81 8) ≤ x2 → GoV E mt_253 31 [some (.ref 81), some (.int x1), some (.int x2), some (.int (x2 + (i3 1)))] SI SJ Q)) : GoV E mt_253 19 [some (.ref 81), some (.int x1), some (.int x2), none] SI SJ Q := by
  refine gj_goq gj_clT ok_253 [7, 19, 31, 46, 53, 60] ?_
  show ((SI 81 8) ≤ x2 → gj_Goes E om0 mt_253 72 [some (.ref 81), some (.int x1), some (.int x2), none] [] SI SJ (QV Q)) ∧ (¬ (SI 81 8) ≤ x2 → gj_Goes E om0 mt_253 31 [some (.ref 81), some (.int x1), some (.int x2), some (.int (x2 + (i3 1)))] [] SI SJ (QV Q))
  refine ⟨fun c1 => ?_, fun c1 => ?_⟩
  · refine gj_goq gj_clT ok_253 [7, 19, 31, 46, 53, 60] ?_
    show gj_Goes E om0 mt_253 7 [some (.ref 81), some (.int (x1 + (i3 1))), some (.int x2), none] [] SI SJ (QV Q)
    exact gj_fh (h.1 c1) (And.intro (Or.inr rfl) (And.intro (Or.inr rfl) (And.intro (Or.inl rfl) (And.intro (Or.inl rfl) trivial))))
  · exact (h.2 c1)
set_option maxRecDepth 20000 in
theorem lp_253_31 {E : gj_E} {Q : gj_I → gj_J → Prop} (x1 : Int32) (x2 : Int32) (x3 : Int32) (SI : gj_I) (SJ : gj_J) (h : ((SI 81 8) ≤ x3 → GoV E mt_253 19 [some (.ref 81), some (.int x1), some (.int (x2 + (i3 1))), none] SI SJ Q) ∧ (¬ (SI 81 8) ≤ x3 → DoI E 249 [(.ref 81), (.int x1), (.int x2), (.int x3)] SI SJ (fun r1 SI2 SJ2 => (r1 = 0 → GoV E mt_253 31 [some (.ref 81), some (.int x1), some (.int x2), some (.int (x3 + (i3 1)))] SI2 SJ2 Q) ∧ (¬ r1 = 0 → DoI E 250 [(.ref 81)] SI2 SJ2 (fun r3 SI4 SJ4 => (¬ r3 = 0 → GoV E mt_253 31 [some (.ref 81), some (.int x1), some (.int x2), some (.int (x3 + (i3 1)))] SI4 SJ4 Q) ∧ (r3 = 0 → DoV E 252 [(.ref 81)] SI4 SJ4 (fun SI6 SJ6 => GoV E mt_253 31 [some (.ref 81), some (.int x1), some (.int x2), some (.int (x3 + (i3 1)))] SI6 SJ6 Q))))))) : GoV E mt_253 31 [some (.ref 81), some (.int x1), some (.int x2), some (.int x3)] SI SJ Q := by
  refine gj_goq gj_clT ok_253 [7, 19, 31, 46, 53, 60] ?_
  show ((SI 81 8) ≤ x3 → gj_Goes E om0 mt_253 66 [some (.ref 81), some (.int x1), some (.int x2), some (.int x3)] [] SI SJ (QV Q)) ∧ (¬ (SI 81 8) ≤ x3 → gj_Do E om0 (gj_mt 249) [(.ref 81), (.int x1), (.int x2), (.int x3)] SI SJ _)
  refine ⟨fun c1 => ?_, fun c1 => ?_⟩
  · refine gj_goq gj_clT ok_253 [7, 19, 31, 46, 53, 60] ?_
    show gj_Goes E om0 mt_253 19 [some (.ref 81), some (.int x1), some (.int (x2 + (i3 1))), some (.int x3)] [] SI SJ (QV Q)
    exact gj_fh (h.1 c1) (And.intro (Or.inr rfl) (And.intro (Or.inr rfl) (And.intro (Or.inr rfl) (And.intro (Or.inl rfl) trivial))))
  · refine gj_Do.mono (h.2 c1) (fun v_ SI2 SJ2 h_ => ?_)
    obtain ⟨r1, rfl, q2⟩ := h_
    show gj_Goes E om0 mt_253 46 [some (.ref 81), some (.int x1), some (.int x2), some (.int x3)] [(.int r1)] SI2 SJ2 (QV Q)
    refine gj_goq gj_clT ok_253 [7, 19, 31, 46, 53, 60] ?_
    show (r1 = 0 → gj_Goes E om0 mt_253 60 [some (.ref 81), some (.int x1), some (.int x2), some (.int x3)] [] SI2 SJ2 (QV Q)) ∧ (¬ r1 = 0 → gj_Do E om0 (gj_mt 250) [(.ref 81)] SI2 SJ2 _)
    refine ⟨fun c3 => ?_, fun c3 => ?_⟩
    · refine gj_goq gj_clT ok_253 [7, 19, 31, 46, 53, 60] ?_
      show gj_Goes E om0 mt_253 31 [some (.ref 81), some (.int x1), some (.int x2), some (.int (x3 + (i3 1)))] [] SI2 SJ2 (QV Q)
      exact (q2.1 c3)
    · refine gj_Do.mono (q2.2 c3) (fun v_ SI4 SJ4 h_ => ?_)
      obtain ⟨r3, rfl, q4⟩ := h_
      show gj_Goes E om0 mt_253 53 [some (.ref 81), some (.int x1), some (.int x2), some (.int x3)] [(.int r3)] SI4 SJ4 (QV Q)
      refine gj_goq gj_clT ok_253 [7, 19, 31, 46, 53, 60] ?_
      show (¬ r3 = 0 → gj_Goes E om0 mt_253 60 [some (.ref 81), some (.int x1), some (.int x2), some (.int x3)] [] SI4 SJ4 (QV Q)) ∧ (r3 = 0 → gj_Do E om0 (gj_mt 252) [(.ref 81)] SI4 SJ4 _)
      refine ⟨fun c5 => ?_, fun c5 => ?_⟩
      · refine gj_goq gj_clT ok_253 [7, 19, 31, 46, 53, 60] ?_
        show gj_Goes E om0 mt_253 31 [some (.ref 81), some (.int x1), some (.int x2), some (.int (x3 + (i3 1)))] [] SI4 SJ4 (QV Q)
        exact (q4.1 c5)
      · refine gj_Do.mono (q4.2 c5) (fun v_ SI6 SJ6 h_ => ?_)
        obtain ⟨rfl, q6⟩ := h_
        show gj_Goes E om0 mt_253 60 [some (.ref 81), some (.int x1), some (.int x2), some (.int x3)] [] SI6 SJ6 (QV Q)
        refine gj_goq gj_clT ok_253 [7, 19, 31, 46, 53, 60] ?_
        show gj_Goes E om0 mt_253 31 [some (.ref 81), some (.int x1), some (.int x2), some (.int (x3 + (i3 1)))] [] SI6 SJ6 (QV Q)
        exact q6
set_option maxRecDepth 20000 in
/-- GraspJudgeModel.weak -/
theorem st_254 {E : gj_E} {Q : Int64 → gj_I → gj_J → Prop} (a1 : Int32) (SI : gj_I) (SJ : gj_J) (h : DoI E 155 [(.long (a1).toInt64), (.long (i6 0)), (.long (i6 6))] SI SJ (fun r1 SI2 SJ2 => (r1 = 0 → Q (i6 (-9000000000000000000)) SI2 SJ2) ∧ (¬ r1 = 0 → DoI E 195 [(.ref 81)] SI2 SJ2 (fun r3 SI4 SJ4 => (¬ r3 = 0 → DoV E 253 [(.ref 81)] SI4 SJ4 (fun SI6 SJ6 => (a1 = (i3 0) → Q (SJ6 81 43) SI6 SJ6) ∧ (a1 = (i3 1) → Q (SJ6 81 44) SI6 SJ6) ∧ (a1 = (i3 2) → Q (SJ6 81 40) SI6 SJ6) ∧ (a1 = (i3 3) → Q (SJ6 81 41) SI6 SJ6) ∧ (a1 = (i3 4) → Q (SJ6 81 42) SI6 SJ6) ∧ (a1 = (i3 5) → Q (SJ6 81 39) SI6 SJ6) ∧ (a1.toInt < 0 ∨ 5 < a1.toInt → Q (SI6 81 48).toInt64 SI6 SJ6))) ∧ (r3 = 0 → Q (i6 (-9000000000000000000)) SI4 SJ4))))) : DoL E 254 [(.ref 81), (.int a1)] SI SJ Q := by
  refine gj_start (M := mt_254) ok_254 (Nat.le_of_ble_eq_true rfl) ?_
  refine gj_goq gj_clT ok_254 [9, 16, 27] ?_
  show gj_Do E om0 (gj_mt 155) [(.long (a1).toInt64), (.long (i6 0)), (.long (i6 6))] SI SJ _
  refine gj_Do.mono h (fun v_ SI2 SJ2 h_ => ?_)
  obtain ⟨r1, rfl, q1⟩ := h_
  show gj_Goes E om0 mt_254 9 [some (.ref 81), some (.int a1)] [(.int r1)] SI2 SJ2 (QL Q)
  refine gj_goq gj_clT ok_254 [9, 16, 27] ?_
  show (r1 = 0 → gj_Goes E om0 mt_254 19 [some (.ref 81), some (.int a1)] [] SI2 SJ2 (QL Q)) ∧ (¬ r1 = 0 → gj_Do E om0 (gj_mt 195) [(.ref 81)] SI2 SJ2 _)
  refine ⟨fun c2 => ?_, fun c2 => ?_⟩
  · refine gj_goq gj_clT ok_254 [9, 16, 27] ?_
    show QL Q (some (.long (i6 (-9000000000000000000)))) SI2 SJ2
    exact ⟨_, rfl, (q1.1 c2)⟩
  · refine gj_Do.mono (q1.2 c2) (fun v_ SI4 SJ4 h_ => ?_)
    obtain ⟨r3, rfl, q3⟩ := h_
    show gj_Goes E om0 mt_254 16 [some (.ref 81), some (.int a1)] [(.int r3)] SI4 SJ4 (QL Q)
    refine gj_goq gj_clT ok_254 [9, 16, 27] ?_
    show (¬ r3 = 0 → gj_Goes E om0 mt_254 23 [some (.ref 81), some (.int a1)] [] SI4 SJ4 (QL Q)) ∧ (r3 = 0 → QL Q (some (.long (i6 (-9000000000000000000)))) SI4 SJ4)
    refine ⟨fun c4 => ?_, fun c4 => ?_⟩
    · refine gj_goq gj_clT ok_254 [9, 16, 27] ?_
      show gj_Do E om0 (gj_mt 253) [(.ref 81)] SI4 SJ4 _
      refine gj_Do.mono (q3.1 c4) (fun v_ SI6 SJ6 h_ => ?_)
      obtain ⟨rfl, q5⟩ := h_
      show gj_Goes E om0 mt_254 27 [some (.ref 81), some (.int a1)] [] SI6 SJ6 (QL Q)
      refine gj_goq gj_clT ok_254 [9, 16, 27] ?_
      show ((a1 = Int32.ofInt (0) → gj_Goes E om0 mt_254 68 [some (.ref 81), some (.int a1)] [] SI6 SJ6 (QL Q)) ∧ (a1 = Int32.ofInt (1) → gj_Goes E om0 mt_254 73 [some (.ref 81), some (.int a1)] [] SI6 SJ6 (QL Q)) ∧ (a1 = Int32.ofInt (2) → gj_Goes E om0 mt_254 78 [some (.ref 81), some (.int a1)] [] SI6 SJ6 (QL Q)) ∧ (a1 = Int32.ofInt (3) → gj_Goes E om0 mt_254 83 [some (.ref 81), some (.int a1)] [] SI6 SJ6 (QL Q)) ∧ (a1 = Int32.ofInt (4) → gj_Goes E om0 mt_254 88 [some (.ref 81), some (.int a1)] [] SI6 SJ6 (QL Q)) ∧ (a1 = Int32.ofInt (5) → gj_Goes E om0 mt_254 93 [some (.ref 81), some (.int a1)] [] SI6 SJ6 (QL Q)) ∧ True) ∧ (a1.toInt < 0 ∨ 5 < a1.toInt → gj_Goes E om0 mt_254 98 [some (.ref 81), some (.int a1)] [] SI6 SJ6 (QL Q))
      refine ⟨⟨fun c6 => ?_, ⟨fun c6 => ?_, ⟨fun c6 => ?_, ⟨fun c6 => ?_, ⟨fun c6 => ?_, ⟨fun c6 => ?_, trivial⟩⟩⟩⟩⟩⟩, fun c6 => ?_⟩
      · refine gj_goq gj_clT ok_254 [9, 16, 27] ?_
        show QL Q (some (.long (SJ6 81 43))) SI6 SJ6
        exact ⟨_, rfl, (q5.1 c6)⟩
      · refine gj_goq gj_clT ok_254 [9, 16, 27] ?_
        show QL Q (some (.long (SJ6 81 44))) SI6 SJ6
        exact ⟨_, rfl, (q5.2.1 c6)⟩
      · refine gj_goq gj_clT ok_254 [9, 16, 27] ?_
        show QL Q (some (.long (SJ6 81 40))) SI6 SJ6
        exact ⟨_, rfl, (q5.2.2.1 c6)⟩
      · refine gj_goq gj_clT ok_254 [9, 16, 27] ?_
        show QL Q (some (.long (SJ6 81 41))) SI6 SJ6
        exact ⟨_, rfl, (q5.2.2.2.1 c6)⟩
      · refine gj_goq gj_clT ok_254 [9, 16, 27] ?_
        show QL Q (some (.long (SJ6 81 42))) SI6 SJ6
        exact ⟨_, rfl, (q5.2.2.2.2.1 c6)⟩
      · refine gj_goq gj_clT ok_254 [9, 16, 27] ?_
        show QL Q (some (.long (SJ6 81 39))) SI6 SJ6
        exact ⟨_, rfl, (q5.2.2.2.2.2.1 c6)⟩
      · refine gj_goq gj_clT ok_254 [9, 16, 27] ?_
        show QL Q (some (.long (SI6 81 48).toInt64)) SI6 SJ6
        exact ⟨_, rfl, (q5.2.2.2.2.2.2 c6)⟩
    · exact ⟨_, rfl, (q3.2 c4)⟩
