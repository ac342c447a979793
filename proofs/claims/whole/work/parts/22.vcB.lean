/-! 22.vcB: what the machine asks of each method, from its entry (st_) and from each loop head (lp_): printed by a program, checked by the kernel -/
set_option maxRecDepth 20000 in
/-- GraspJudge$Hold.seek -/
theorem st_16 {E : gj_E} {Q : Int32 → gj_I → gj_J → Prop} (a1 : Int64) (a2 : Int64) (a3 : Int64) (SI : gj_I) (SJ : gj_J) (h : (¬ (-a1) = (i6 0) → DoV E 17 [(.ref 55), (.ref 42)] (gj_u2 (gj_u2 SI 55 8 (i3 0)) 55 5 (i3 0)) (gj_w2 (gj_w2 (gj_w2 (gj_w2 (gj_w2 SJ 55 9 (-a1)) 55 10 (-a2)) 55 11 (-a3)) 55 7 (i6 0)) 55 6 (i6 1)) (fun SI2 SJ2 => DoV E 18 [(.ref 55), (.ref 42)] SI2 SJ2 (fun SI4 SJ4 => DoV E 20 [(.ref 55), (.ref 42)] SI4 SJ4 (fun SI6 SJ6 => ((SI6 55 8) = 0 → ((SI6 55 8) = 0 ∨ (SI6 55 8) = 1) ∧ (Q (SI6 55 8) SI6 SJ6)) ∧ (¬ (SI6 55 8) = 0 → DoV E 14 [(.ref 56), (.long (SJ6 55 7)), (.long (SJ6 55 6))] SI6 SJ6 (fun SI8 SJ8 => ((SI8 55 8) = 0 ∨ (SI8 55 8) = 1) ∧ (Q (SI8 55 8) SI8 SJ8))))))) ∧ ((-a1) = (i6 0) → (¬ (-a2) = (i6 0) → DoV E 17 [(.ref 55), (.ref 42)] (gj_u2 (gj_u2 SI 55 8 (i3 0)) 55 5 (i3 0)) (gj_w2 (gj_w2 (gj_w2 (gj_w2 (gj_w2 SJ 55 9 (-a1)) 55 10 (-a2)) 55 11 (-a3)) 55 7 (i6 0)) 55 6 (i6 1)) (fun SI10 SJ10 => DoV E 18 [(.ref 55), (.ref 42)] SI10 SJ10 (fun SI12 SJ12 => DoV E 20 [(.ref 55), (.ref 42)] SI12 SJ12 (fun SI14 SJ14 => ((SI14 55 8) = 0 → ((SI14 55 8) = 0 ∨ (SI14 55 8) = 1) ∧ (Q (SI14 55 8) SI14 SJ14)) ∧ (¬ (SI14 55 8) = 0 → DoV E 14 [(.ref 56), (.long (SJ14 55 7)), (.long (SJ14 55 6))] SI14 SJ14 (fun SI16 SJ16 => ((SI16 55 8) = 0 ∨ (SI16 55 8) = 1) ∧ (Q (SI16 55 8) SI16 SJ16))))))) ∧ ((-a2) = (i6 0) → (¬ (-a3) = (i6 0) → DoV E 17 [(.ref 55), (.ref 42)] (gj_u2 (gj_u2 SI 55 8 (i3 0)) 55 5 (i3 0)) (gj_w2 (gj_w2 (gj_w2 (gj_w2 (gj_w2 SJ 55 9 (-a1)) 55 10 (-a2)) 55 11 (-a3)) 55 7 (i6 0)) 55 6 (i6 1)) (fun SI18 SJ18 => DoV E 18 [(.ref 55), (.ref 42)] SI18 SJ18 (fun SI20 SJ20 => DoV E 20 [(.ref 55), (.ref 42)] SI20 SJ20 (fun SI22 SJ22 => ((SI22 55 8) = 0 → ((SI22 55 8) = 0 ∨ (SI22 55 8) = 1) ∧ (Q (SI22 55 8) SI22 SJ22)) ∧ (¬ (SI22 55 8) = 0 → DoV E 14 [(.ref 56), (.long (SJ22 55 7)), (.long (SJ22 55 6))] SI22 SJ22 (fun SI24 SJ24 => ((SI24 55 8) = 0 ∨ (SI24 55 8) = 1) ∧ (Q (SI24 55 8) SI24 SJ24))))))) ∧ ((-a3) = (i6 0) → ((i3 1) = 0 → ((i3 1) = 0 ∨ (i3 1) = 1) ∧ (Q (i3 1) (gj_u2 (gj_u2 (gj_u2 SI 55 8 (i3 0)) 55 5 (i3 0)) 55 8 (i3 1)) (gj_w2 (gj_w2 (gj_w2 (gj_w2 (gj_w2 SJ 55 9 (-a1)) 55 10 (-a2)) 55 11 (-a3)) 55 7 (i6 0)) 55 6 (i6 1)))) ∧ (¬ (i3 1) = 0 → DoV E 14 [(.ref 56), (.long (i6 0)), (.long (i6 1))] (gj_u2 (gj_u2 (gj_u2 SI 55 8 (i3 0)) 55 5 (i3 0)) 55 8 (i3 1)) (gj_w2 (gj_w2 (gj_w2 (gj_w2 (gj_w2 SJ 55 9 (-a1)) 55 10 (-a2)) 55 11 (-a3)) 55 7 (i6 0)) 55 6 (i6 1)) (fun SI26 SJ26 => ((SI26 55 8) = 0 ∨ (SI26 55 8) = 1) ∧ (Q (SI26 55 8) SI26 SJ26))))))) : DoI E 16 [(.ref 55), (.ref 42), (.long a1), (.long a2), (.long a3)] SI SJ Q := by
  refine gj_start (M := mt_16) ok_16 (Nat.le_of_ble_eq_true rfl) ?_
  refine gj_goq gj_clT ok_16 [80, 85, 90, 112] ?_
  show ((i3 0) = 0 ∨ (i3 0) = 1) ∧ ((¬ (lg_cmp (-a1) (i6 0)) = 0 → gj_Goes E om0 mt_16 75 [some (.ref 55), some (.ref 42), some (.long a1), none, some (.long a2), none, some (.long a3), none] [] (gj_u2 (gj_u2 SI 55 8 (i3 0)) 55 5 (i3 0)) (gj_w2 (gj_w2 (gj_w2 (gj_w2 (gj_w2 SJ 55 9 (-a1)) 55 10 (-a2)) 55 11 (-a3)) 55 7 (i6 0)) 55 6 (i6 1)) (QI Q)) ∧ ((lg_cmp (-a1) (i6 0)) = 0 → (¬ (lg_cmp (-a2) (i6 0)) = 0 → gj_Goes E om0 mt_16 75 [some (.ref 55), some (.ref 42), some (.long a1), none, some (.long a2), none, some (.long a3), none] [] (gj_u2 (gj_u2 SI 55 8 (i3 0)) 55 5 (i3 0)) (gj_w2 (gj_w2 (gj_w2 (gj_w2 (gj_w2 SJ 55 9 (-a1)) 55 10 (-a2)) 55 11 (-a3)) 55 7 (i6 0)) 55 6 (i6 1)) (QI Q)) ∧ ((lg_cmp (-a2) (i6 0)) = 0 → (¬ (lg_cmp (-a3) (i6 0)) = 0 → gj_Goes E om0 mt_16 75 [some (.ref 55), some (.ref 42), some (.long a1), none, some (.long a2), none, some (.long a3), none] [] (gj_u2 (gj_u2 SI 55 8 (i3 0)) 55 5 (i3 0)) (gj_w2 (gj_w2 (gj_w2 (gj_w2 (gj_w2 SJ 55 9 (-a1)) 55 10 (-a2)) 55 11 (-a3)) 55 7 (i6 0)) 55 6 (i6 1)) (QI Q)) ∧ ((lg_cmp (-a3) (i6 0)) = 0 → ((i3 1) = 0 ∨ (i3 1) = 1) ∧ (gj_Goes E om0 mt_16 90 [some (.ref 55), some (.ref 42), some (.long a1), none, some (.long a2), none, some (.long a3), none] [] (gj_u2 (gj_u2 (gj_u2 SI 55 8 (i3 0)) 55 5 (i3 0)) 55 8 (i3 1)) (gj_w2 (gj_w2 (gj_w2 (gj_w2 (gj_w2 SJ 55 9 (-a1)) 55 10 (-a2)) 55 11 (-a3)) 55 7 (i6 0)) 55 6 (i6 1)) (QI Q))))))
  refine ⟨(Or.inl rfl), ?_⟩
  refine ⟨fun c1 => ?_, fun c1 => ?_⟩
  · refine gj_goq gj_clT ok_16 [80, 85, 90, 112] ?_
    show gj_Do E om0 (gj_mt 17) [(.ref 55), (.ref 42)] (gj_u2 (gj_u2 SI 55 8 (i3 0)) 55 5 (i3 0)) (gj_w2 (gj_w2 (gj_w2 (gj_w2 (gj_w2 SJ 55 9 (-a1)) 55 10 (-a2)) 55 11 (-a3)) 55 7 (i6 0)) 55 6 (i6 1)) _
    refine gj_Do.mono (h.1 (fun z_ => c1 (lgc_eq.mpr z_))) (fun v_ SI2 SJ2 h_ => ?_)
    obtain ⟨rfl, q2⟩ := h_
    show gj_Goes E om0 mt_16 80 [some (.ref 55), some (.ref 42), some (.long a1), none, some (.long a2), none, some (.long a3), none] [] SI2 SJ2 (QI Q)
    refine gj_goq gj_clT ok_16 [80, 85, 90, 112] ?_
    show gj_Do E om0 (gj_mt 18) [(.ref 55), (.ref 42)] SI2 SJ2 _
    refine gj_Do.mono q2 (fun v_ SI4 SJ4 h_ => ?_)
    obtain ⟨rfl, q3⟩ := h_
    show gj_Goes E om0 mt_16 85 [some (.ref 55), some (.ref 42), some (.long a1), none, some (.long a2), none, some (.long a3), none] [] SI4 SJ4 (QI Q)
    refine gj_goq gj_clT ok_16 [80, 85, 90, 112] ?_
    show gj_Do E om0 (gj_mt 20) [(.ref 55), (.ref 42)] SI4 SJ4 _
    refine gj_Do.mono q3 (fun v_ SI6 SJ6 h_ => ?_)
    obtain ⟨rfl, q4⟩ := h_
    show gj_Goes E om0 mt_16 90 [some (.ref 55), some (.ref 42), some (.long a1), none, some (.long a2), none, some (.long a3), none] [] SI6 SJ6 (QI Q)
    refine gj_goq gj_clT ok_16 [80, 85, 90, 112] ?_
    show ((SI6 55 8) = 0 → gj_Goes E om0 mt_16 112 [some (.ref 55), some (.ref 42), some (.long a1), none, some (.long a2), none, some (.long a3), none] [] SI6 SJ6 (QI Q)) ∧ (¬ (SI6 55 8) = 0 → gj_Do E om0 (gj_mt 14) [(.ref 56), (.long (SJ6 55 7)), (.long (SJ6 55 6))] SI6 SJ6 _)
    refine ⟨fun c5 => ?_, fun c5 => ?_⟩
    · refine gj_goq gj_clT ok_16 [80, 85, 90, 112] ?_
      show ((SI6 55 8) = 0 ∨ (SI6 55 8) = 1) ∧ (QI Q (some (.int (SI6 55 8))) SI6 SJ6)
      have k6 := (q4.1 c5).1
      refine ⟨k6, ?_⟩
      exact ⟨_, rfl, (q4.1 c5).2⟩
    · refine gj_Do.mono (q4.2 c5) (fun v_ SI8 SJ8 h_ => ?_)
      obtain ⟨rfl, q7⟩ := h_
      show gj_Goes E om0 mt_16 112 [some (.ref 55), some (.ref 42), some (.long a1), none, some (.long a2), none, some (.long a3), none] [] SI8 SJ8 (QI Q)
      refine gj_goq gj_clT ok_16 [80, 85, 90, 112] ?_
      show ((SI8 55 8) = 0 ∨ (SI8 55 8) = 1) ∧ (QI Q (some (.int (SI8 55 8))) SI8 SJ8)
      have k8 := q7.1
      refine ⟨k8, ?_⟩
      exact ⟨_, rfl, q7.2⟩
  · refine ⟨fun c9 => ?_, fun c9 => ?_⟩
    · refine gj_goq gj_clT ok_16 [80, 85, 90, 112] ?_
      show gj_Do E om0 (gj_mt 17) [(.ref 55), (.ref 42)] (gj_u2 (gj_u2 SI 55 8 (i3 0)) 55 5 (i3 0)) (gj_w2 (gj_w2 (gj_w2 (gj_w2 (gj_w2 SJ 55 9 (-a1)) 55 10 (-a2)) 55 11 (-a3)) 55 7 (i6 0)) 55 6 (i6 1)) _
      refine gj_Do.mono ((h.2 (lgc_eq.mp c1)).1 (fun z_ => c9 (lgc_eq.mpr z_))) (fun v_ SI10 SJ10 h_ => ?_)
      obtain ⟨rfl, q10⟩ := h_
      show gj_Goes E om0 mt_16 80 [some (.ref 55), some (.ref 42), some (.long a1), none, some (.long a2), none, some (.long a3), none] [] SI10 SJ10 (QI Q)
      refine gj_goq gj_clT ok_16 [80, 85, 90, 112] ?_
      show gj_Do E om0 (gj_mt 18) [(.ref 55), (.ref 42)] SI10 SJ10 _
      refine gj_Do.mono q10 (fun v_ SI12 SJ12 h_ => ?_)
      obtain ⟨rfl, q11⟩ := h_
      show gj_Goes E om0 mt_16 85 [some (.ref 55), some (.ref 42), some (.long a1), none, some (.long a2), none, some (.long a3), none] [] SI12 SJ12 (QI Q)
      refine gj_goq gj_clT ok_16 [80, 85, 90, 112] ?_
      show gj_Do E om0 (gj_mt 20) [(.ref 55), (.ref 42)] SI12 SJ12 _
      refine gj_Do.mono q11 (fun v_ SI14 SJ14 h_ => ?_)
      obtain ⟨rfl, q12⟩ := h_
      show gj_Goes E om0 mt_16 90 [some (.ref 55), some (.ref 42), some (.long a1), none, some (.long a2), none, some (.long a3), none] [] SI14 SJ14 (QI Q)
      refine gj_goq gj_clT ok_16 [80, 85, 90, 112] ?_
      show ((SI14 55 8) = 0 → gj_Goes E om0 mt_16 112 [some (.ref 55), some (.ref 42), some (.long a1), none, some (.long a2), none, some (.long a3), none] [] SI14 SJ14 (QI Q)) ∧ (¬ (SI14 55 8) = 0 → gj_Do E om0 (gj_mt 14) [(.ref 56), (.long (SJ14 55 7)), (.long (SJ14 55 6))] SI14 SJ14 _)
      refine ⟨fun c13 => ?_, fun c13 => ?_⟩
      · refine gj_goq gj_clT ok_16 [80, 85, 90, 112] ?_
        show ((SI14 55 8) = 0 ∨ (SI14 55 8) = 1) ∧ (QI Q (some (.int (SI14 55 8))) SI14 SJ14)
        have k14 := (q12.1 c13).1
        refine ⟨k14, ?_⟩
        exact ⟨_, rfl, (q12.1 c13).2⟩
      · refine gj_Do.mono (q12.2 c13) (fun v_ SI16 SJ16 h_ => ?_)
        obtain ⟨rfl, q15⟩ := h_
        show gj_Goes E om0 mt_16 112 [some (.ref 55), some (.ref 42), some (.long a1), none, some (.long a2), none, some (.long a3), none] [] SI16 SJ16 (QI Q)
        refine gj_goq gj_clT ok_16 [80, 85, 90, 112] ?_
        show ((SI16 55 8) = 0 ∨ (SI16 55 8) = 1) ∧ (QI Q (some (.int (SI16 55 8))) SI16 SJ16)
        have k16 := q15.1
        refine ⟨k16, ?_⟩
        exact ⟨_, rfl, q15.2⟩
    · refine ⟨fun c17 => ?_, fun c17 => ?_⟩
      · refine gj_goq gj_clT ok_16 [80, 85, 90, 112] ?_
        show gj_Do E om0 (gj_mt 17) [(.ref 55), (.ref 42)] (gj_u2 (gj_u2 SI 55 8 (i3 0)) 55 5 (i3 0)) (gj_w2 (gj_w2 (gj_w2 (gj_w2 (gj_w2 SJ 55 9 (-a1)) 55 10 (-a2)) 55 11 (-a3)) 55 7 (i6 0)) 55 6 (i6 1)) _
        refine gj_Do.mono (((h.2 (lgc_eq.mp c1)).2 (lgc_eq.mp c9)).1 (fun z_ => c17 (lgc_eq.mpr z_))) (fun v_ SI18 SJ18 h_ => ?_)
        obtain ⟨rfl, q18⟩ := h_
        show gj_Goes E om0 mt_16 80 [some (.ref 55), some (.ref 42), some (.long a1), none, some (.long a2), none, some (.long a3), none] [] SI18 SJ18 (QI Q)
        refine gj_goq gj_clT ok_16 [80, 85, 90, 112] ?_
        show gj_Do E om0 (gj_mt 18) [(.ref 55), (.ref 42)] SI18 SJ18 _
        refine gj_Do.mono q18 (fun v_ SI20 SJ20 h_ => ?_)
        obtain ⟨rfl, q19⟩ := h_
        show gj_Goes E om0 mt_16 85 [some (.ref 55), some (.ref 42), some (.long a1), none, some (.long a2), none, some (.long a3), none] [] SI20 SJ20 (QI Q)
        refine gj_goq gj_clT ok_16 [80, 85, 90, 112] ?_
        show gj_Do E om0 (gj_mt 20) [(.ref 55), (.ref 42)] SI20 SJ20 _
        refine gj_Do.mono q19 (fun v_ SI22 SJ22 h_ => ?_)
        obtain ⟨rfl, q20⟩ := h_
        show gj_Goes E om0 mt_16 90 [some (.ref 55), some (.ref 42), some (.long a1), none, some (.long a2), none, some (.long a3), none] [] SI22 SJ22 (QI Q)
        refine gj_goq gj_clT ok_16 [80, 85, 90, 112] ?_
        show ((SI22 55 8) = 0 → gj_Goes E om0 mt_16 112 [some (.ref 55), some (.ref 42), some (.long a1), none, some (.long a2), none, some (.long a3), none] [] SI22 SJ22 (QI Q)) ∧ (¬ (SI22 55 8) = 0 → gj_Do E om0 (gj_mt 14) [(.ref 56), (.long (SJ22 55 7)), (.long (SJ22 55 6))] SI22 SJ22 _)
        refine ⟨fun c21 => ?_, fun c21 => ?_⟩
        · refine gj_goq gj_clT ok_16 [80, 85, 90, 112] ?_
          show ((SI22 55 8) = 0 ∨ (SI22 55 8) = 1) ∧ (QI Q (some (.int (SI22 55 8))) SI22 SJ22)
          have k22 := (q20.1 c21).1
          refine ⟨k22, ?_⟩
          exact ⟨_, rfl, (q20.1 c21).2⟩
        · refine gj_Do.mono (q20.2 c21) (fun v_ SI24 SJ24 h_ => ?_)
          obtain ⟨rfl, q23⟩ := h_
          show gj_Goes E om0 mt_16 112 [some (.ref 55), some (.ref 42), some (.long a1), none, some (.long a2), none, some (.long a3), none] [] SI24 SJ24 (QI Q)
          refine gj_goq gj_clT ok_16 [80, 85, 90, 112] ?_
          show ((SI24 55 8) = 0 ∨ (SI24 55 8) = 1) ∧ (QI Q (some (.int (SI24 55 8))) SI24 SJ24)
          have k24 := q23.1
          refine ⟨k24, ?_⟩
          exact ⟨_, rfl, q23.2⟩
      · refine ⟨(Or.inr rfl), ?_⟩
        refine gj_goq gj_clT ok_16 [80, 85, 90, 112] ?_
        show ((i3 1) = 0 → gj_Goes E om0 mt_16 112 [some (.ref 55), some (.ref 42), some (.long a1), none, some (.long a2), none, some (.long a3), none] [] (gj_u2 (gj_u2 (gj_u2 SI 55 8 (i3 0)) 55 5 (i3 0)) 55 8 (i3 1)) (gj_w2 (gj_w2 (gj_w2 (gj_w2 (gj_w2 SJ 55 9 (-a1)) 55 10 (-a2)) 55 11 (-a3)) 55 7 (i6 0)) 55 6 (i6 1)) (QI Q)) ∧ (¬ (i3 1) = 0 → gj_Do E om0 (gj_mt 14) [(.ref 56), (.long (i6 0)), (.long (i6 1))] (gj_u2 (gj_u2 (gj_u2 SI 55 8 (i3 0)) 55 5 (i3 0)) 55 8 (i3 1)) (gj_w2 (gj_w2 (gj_w2 (gj_w2 (gj_w2 SJ 55 9 (-a1)) 55 10 (-a2)) 55 11 (-a3)) 55 7 (i6 0)) 55 6 (i6 1)) _)
        refine ⟨fun c25 => ?_, fun c25 => ?_⟩
        · refine gj_goq gj_clT ok_16 [80, 85, 90, 112] ?_
          show ((i3 1) = 0 ∨ (i3 1) = 1) ∧ (QI Q (some (.int (i3 1))) (gj_u2 (gj_u2 (gj_u2 SI 55 8 (i3 0)) 55 5 (i3 0)) 55 8 (i3 1)) (gj_w2 (gj_w2 (gj_w2 (gj_w2 (gj_w2 SJ 55 9 (-a1)) 55 10 (-a2)) 55 11 (-a3)) 55 7 (i6 0)) 55 6 (i6 1)))
          have k26 := ((((h.2 (lgc_eq.mp c1)).2 (lgc_eq.mp c9)).2 (lgc_eq.mp c17)).1 c25).1
          refine ⟨k26, ?_⟩
          exact ⟨_, rfl, ((((h.2 (lgc_eq.mp c1)).2 (lgc_eq.mp c9)).2 (lgc_eq.mp c17)).1 c25).2⟩
        · refine gj_Do.mono ((((h.2 (lgc_eq.mp c1)).2 (lgc_eq.mp c9)).2 (lgc_eq.mp c17)).2 c25) (fun v_ SI26 SJ26 h_ => ?_)
          obtain ⟨rfl, q27⟩ := h_
          show gj_Goes E om0 mt_16 112 [some (.ref 55), some (.ref 42), some (.long a1), none, some (.long a2), none, some (.long a3), none] [] SI26 SJ26 (QI Q)
          refine gj_goq gj_clT ok_16 [80, 85, 90, 112] ?_
          show ((SI26 55 8) = 0 ∨ (SI26 55 8) = 1) ∧ (QI Q (some (.int (SI26 55 8))) SI26 SJ26)
          have k28 := q27.1
          refine ⟨k28, ?_⟩
          exact ⟨_, rfl, q27.2⟩
set_option maxRecDepth 20000 in
/-- GraspJudge$Hold.seekOnes -/
theorem st_17 {E : gj_E} {Q : gj_I → gj_J → Prop} (SI : gj_I) (SJ : gj_J) (h : GoV E mt_17 2 [some (.ref 55), some (.ref 42), some (.int (i3 0)), none, none, none, none, none, none, none, none, none, none] SI SJ Q) : DoV E 17 [(.ref 55), (.ref 42)] SI SJ Q := by
  refine gj_start (M := mt_17) ok_17 (Nat.le_of_ble_eq_true rfl) ?_
  refine gj_goq gj_clT ok_17 [2, 158, 168] ?_
  show gj_Goes E om0 mt_17 2 [some (.ref 55), some (.ref 42), some (.int (i3 0)), none, none, none, none, none, none, none, none, none, none] [] SI SJ (QV Q)
  exact h
set_option maxRecDepth 20000 in
theorem lp_17_2 {E : gj_E} {Q : gj_I → gj_J → Prop} (x2 : Int32) (SI : gj_I) (SJ : gj_J) (h : ((SI 42 9) ≤ x2 → Q SI SJ) ∧ (¬ (SI 42 9) ≤ x2 → vp_in x2 14 ∧ ((¬ ((SJ 55 10) * (SJ 45 (gj_n x2))) = ((SJ 55 11) * (SJ 44 (gj_n x2))) → GoV E mt_17 2 [some (.ref 55), some (.ref 42), some (.int (x2 + (i3 1))), none, none, none, none, none, none, none, none, none, none] SI SJ Q) ∧ (((SJ 55 10) * (SJ 45 (gj_n x2))) = ((SJ 55 11) * (SJ 44 (gj_n x2))) → (¬ ((SJ 55 11) * (SJ 43 (gj_n x2))) = ((SJ 55 9) * (SJ 45 (gj_n x2))) → GoV E mt_17 2 [some (.ref 55), some (.ref 42), some (.int (x2 + (i3 1))), none, none, none, none, none, none, none, none, none, none] SI SJ Q) ∧ (((SJ 55 11) * (SJ 43 (gj_n x2))) = ((SJ 55 9) * (SJ 45 (gj_n x2))) → (((SJ 55 9) * (SJ 44 (gj_n x2))) = ((SJ 55 10) * (SJ 43 (gj_n x2))) → ((SJ 43 (gj_n x2)) = (i6 0) → ((SJ 44 (gj_n x2)) = (i6 0) → ((SJ 43 (gj_n x2)) = (i6 0) → ((SJ 44 (gj_n x2)) = (i6 0) → DoI E 21 [(.ref 55), (.int (i3 1)), (.long (SJ 55 11)), (.long (i6 0)), (.long (i6 0)), (.long (SJ 45 (gj_n x2)))] SI SJ (fun r1 SI2 SJ2 => (r1 = 0 → GoV E mt_17 2 [some (.ref 55), some (.ref 42), some (.int (x2 + (i3 1))), none, none, none, none, none, none, none, none, none, none] SI2 SJ2 Q) ∧ (¬ r1 = 0 → DoV E 22 [(.ref 55), (.int x2), (.int (i3 0)), (.int (i3 0))] SI2 SJ2 (fun SI4 SJ4 => GoV E mt_17 2 [some (.ref 55), some (.ref 42), some (.int (x2 + (i3 1))), none, none, none, none, none, none, none, none, none, none] SI4 SJ4 Q)))) ∧ (¬ (SJ 44 (gj_n x2)) = (i6 0) → DoI E 21 [(.ref 55), (.int (i3 1)), (.long (SJ 55 11)), (.long (i6 0)), (.long (i6 0)), (.long (SJ 44 (gj_n x2)))] SI SJ (fun r5 SI6 SJ6 => (r5 = 0 → GoV E mt_17 2 [some (.ref 55), some (.ref 42), some (.int (x2 + (i3 1))), none, none, none, none, none, none, none, none, none, none] SI6 SJ6 Q) ∧ (¬ r5 = 0 → DoV E 22 [(.ref 55), (.int x2), (.int (i3 0)), (.int (i3 0))] SI6 SJ6 (fun SI8 SJ8 => GoV E mt_17 2 [some (.ref 55), some (.ref 42), some (.int (x2 + (i3 1))), none, none, none, none, none, none, none, none, none, none] SI8 SJ8 Q))))) ∧ (¬ (SJ 43 (gj_n x2)) = (i6 0) → DoI E 21 [(.ref 55), (.int (i3 1)), (.long (SJ 55 11)), (.long (i6 0)), (.long (i6 0)), (.long (SJ 43 (gj_n x2)))] SI SJ (fun r9 SI10 SJ10 => (r9 = 0 → GoV E mt_17 2 [some (.ref 55), some (.ref 42), some (.int (x2 + (i3 1))), none, none, none, none, none, none, none, none, none, none] SI10 SJ10 Q) ∧ (¬ r9 = 0 → DoV E 22 [(.ref 55), (.int x2), (.int (i3 0)), (.int (i3 0))] SI10 SJ10 (fun SI12 SJ12 => GoV E mt_17 2 [some (.ref 55), some (.ref 42), some (.int (x2 + (i3 1))), none, none, none, none, none, none, none, none, none, none] SI12 SJ12 Q))))) ∧ (¬ (SJ 44 (gj_n x2)) = (i6 0) → ((SJ 43 (gj_n x2)) = (i6 0) → ((SJ 44 (gj_n x2)) = (i6 0) → DoI E 21 [(.ref 55), (.int (i3 1)), (.long (SJ 55 10)), (.long (i6 0)), (.long (i6 0)), (.long (SJ 45 (gj_n x2)))] SI SJ (fun r13 SI14 SJ14 => (r13 = 0 → GoV E mt_17 2 [some (.ref 55), some (.ref 42), some (.int (x2 + (i3 1))), none, none, none, none, none, none, none, none, none, none] SI14 SJ14 Q) ∧ (¬ r13 = 0 → DoV E 22 [(.ref 55), (.int x2), (.int (i3 0)), (.int (i3 0))] SI14 SJ14 (fun SI16 SJ16 => GoV E mt_17 2 [some (.ref 55), some (.ref 42), some (.int (x2 + (i3 1))), none, none, none, none, none, none, none, none, none, none] SI16 SJ16 Q)))) ∧ (¬ (SJ 44 (gj_n x2)) = (i6 0) → DoI E 21 [(.ref 55), (.int (i3 1)), (.long (SJ 55 10)), (.long (i6 0)), (.long (i6 0)), (.long (SJ 44 (gj_n x2)))] SI SJ (fun r17 SI18 SJ18 => (r17 = 0 → GoV E mt_17 2 [some (.ref 55), some (.ref 42), some (.int (x2 + (i3 1))), none, none, none, none, none, none, none, none, none, none] SI18 SJ18 Q) ∧ (¬ r17 = 0 → DoV E 22 [(.ref 55), (.int x2), (.int (i3 0)), (.int (i3 0))] SI18 SJ18 (fun SI20 SJ20 => GoV E mt_17 2 [some (.ref 55), some (.ref 42), some (.int (x2 + (i3 1))), none, none, none, none, none, none, none, none, none, none] SI20 SJ20 Q))))) ∧ (¬ (SJ 43 (gj_n x2)) = (i6 0) → DoI E 21 [(.ref 55), (.int (i3 1)), (.long (SJ 55 10)), (.long (i6 0)), (.long (i6 0)), (.long (SJ 43 (gj_n x2)))] SI SJ (fun r21 SI22 SJ22 => (r21 = 0 → GoV E mt_17 2 [some (.ref 55), some (.ref 42), some (.int (x2 + (i3 1))), none, none, none, none, none, none, none, none, none, none] SI22 SJ22 Q) ∧ (¬ r21 = 0 → DoV E 22 [(.ref 55), (.int x2), (.int (i3 0)), (.int (i3 0))] SI22 SJ22 (fun SI24 SJ24 => GoV E mt_17 2 [some (.ref 55), some (.ref 42), some (.int (x2 + (i3 1))), none, none, none, none, none, none, none, none, none, none] SI24 SJ24 Q)))))) ∧ (¬ (SJ 43 (gj_n x2)) = (i6 0) → ((SJ 43 (gj_n x2)) = (i6 0) → ((SJ 44 (gj_n x2)) = (i6 0) → DoI E 21 [(.ref 55), (.int (i3 1)), (.long (SJ 55 9)), (.long (i6 0)), (.long (i6 0)), (.long (SJ 45 (gj_n x2)))] SI SJ (fun r25 SI26 SJ26 => (r25 = 0 → GoV E mt_17 2 [some (.ref 55), some (.ref 42), some (.int (x2 + (i3 1))), none, none, none, none, none, none, none, none, none, none] SI26 SJ26 Q) ∧ (¬ r25 = 0 → DoV E 22 [(.ref 55), (.int x2), (.int (i3 0)), (.int (i3 0))] SI26 SJ26 (fun SI28 SJ28 => GoV E mt_17 2 [some (.ref 55), some (.ref 42), some (.int (x2 + (i3 1))), none, none, none, none, none, none, none, none, none, none] SI28 SJ28 Q)))) ∧ (¬ (SJ 44 (gj_n x2)) = (i6 0) → DoI E 21 [(.ref 55), (.int (i3 1)), (.long (SJ 55 9)), (.long (i6 0)), (.long (i6 0)), (.long (SJ 44 (gj_n x2)))] SI SJ (fun r29 SI30 SJ30 => (r29 = 0 → GoV E mt_17 2 [some (.ref 55), some (.ref 42), some (.int (x2 + (i3 1))), none, none, none, none, none, none, none, none, none, none] SI30 SJ30 Q) ∧ (¬ r29 = 0 → DoV E 22 [(.ref 55), (.int x2), (.int (i3 0)), (.int (i3 0))] SI30 SJ30 (fun SI32 SJ32 => GoV E mt_17 2 [some (.ref 55), some (.ref 42), some (.int (x2 + (i3 1))), none, none, none, none, none, none, none, none, none, none] SI32 SJ32 Q))))) ∧ (¬ (SJ 43 (gj_n x2)) = (i6 0) → DoI E 21 [(.ref 55), (.int (i3 1)), (.long (SJ 55 9)), (.long (i6 0)), (.long (i6 0)), (.long (SJ 43 (gj_n x2)))] SI SJ (fun r33 SI34 SJ34 => (r33 = 0 → GoV E mt_17 2 [some (.ref 55), some (.ref 42), some (.int (x2 + (i3 1))), none, none, none, none, none, none, none, none, none, none] SI34 SJ34 Q) ∧ (¬ r33 = 0 → DoV E 22 [(.ref 55), (.int x2), (.int (i3 0)), (.int (i3 0))] SI34 SJ34 (fun SI36 SJ36 => GoV E mt_17 2 [some (.ref 55), some (.ref 42), some (.int (x2 + (i3 1))), none, none, none, none, none, none, none, none, none, none] SI36 SJ36 Q)))))) ∧ (¬ ((SJ 55 9) * (SJ 44 (gj_n x2))) = ((SJ 55 10) * (SJ 43 (gj_n x2))) → GoV E mt_17 2 [some (.ref 55), some (.ref 42), some (.int (x2 + (i3 1))), none, none, none, none, none, none, none, none, none, none] SI SJ Q)))))) : GoV E mt_17 2 [some (.ref 55), some (.ref 42), some (.int x2), none, none, none, none, none, none, none, none, none, none] SI SJ Q := by
  refine gj_goq gj_clT ok_17 [2, 158, 168] ?_
  show ((SI 42 9) ≤ x2 → gj_Goes E om0 mt_17 174 [some (.ref 55), some (.ref 42), some (.int x2), none, none, none, none, none, none, none, none, none, none] [] SI SJ (QV Q)) ∧ (¬ (SI 42 9) ≤ x2 → vp_in x2 14 ∧ (vp_in x2 14 ∧ (vp_in x2 14 ∧ ((¬ (lg_cmp ((SJ 55 10) * (SJ 45 (gj_n x2))) ((SJ 55 11) * (SJ 44 (gj_n x2)))) = 0 → gj_Goes E om0 mt_17 168 [some (.ref 55), some (.ref 42), some (.int x2), some (.long (SJ 43 (gj_n x2))), none, some (.long (SJ 44 (gj_n x2))), none, some (.long (SJ 45 (gj_n x2))), none, none, none, none, none] [] SI SJ (QV Q)) ∧ ((lg_cmp ((SJ 55 10) * (SJ 45 (gj_n x2))) ((SJ 55 11) * (SJ 44 (gj_n x2)))) = 0 → (¬ (lg_cmp ((SJ 55 11) * (SJ 43 (gj_n x2))) ((SJ 55 9) * (SJ 45 (gj_n x2)))) = 0 → gj_Goes E om0 mt_17 168 [some (.ref 55), some (.ref 42), some (.int x2), some (.long (SJ 43 (gj_n x2))), none, some (.long (SJ 44 (gj_n x2))), none, some (.long (SJ 45 (gj_n x2))), none, none, none, none, none] [] SI SJ (QV Q)) ∧ ((lg_cmp ((SJ 55 11) * (SJ 43 (gj_n x2))) ((SJ 55 9) * (SJ 45 (gj_n x2)))) = 0 → ((lg_cmp ((SJ 55 9) * (SJ 44 (gj_n x2))) ((SJ 55 10) * (SJ 43 (gj_n x2)))) = 0 → gj_Goes E om0 mt_17 88 [some (.ref 55), some (.ref 42), some (.int x2), some (.long (SJ 43 (gj_n x2))), none, some (.long (SJ 44 (gj_n x2))), none, some (.long (SJ 45 (gj_n x2))), none, none, none, none, none] [] SI SJ (QV Q)) ∧ (¬ (lg_cmp ((SJ 55 9) * (SJ 44 (gj_n x2))) ((SJ 55 10) * (SJ 43 (gj_n x2)))) = 0 → gj_Goes E om0 mt_17 168 [some (.ref 55), some (.ref 42), some (.int x2), some (.long (SJ 43 (gj_n x2))), none, some (.long (SJ 44 (gj_n x2))), none, some (.long (SJ 45 (gj_n x2))), none, none, none, none, none] [] SI SJ (QV Q))))))))
  refine ⟨fun c1 => ?_, fun c1 => ?_⟩
  · refine gj_goq gj_clT ok_17 [2, 158, 168] ?_
    show QV Q none SI SJ
    exact ⟨rfl, (h.1 c1)⟩
  · have k2 := (h.2 c1).1
    refine ⟨k2, ?_⟩
    refine ⟨k2, ?_⟩
    refine ⟨k2, ?_⟩
    refine ⟨fun c3 => ?_, fun c3 => ?_⟩
    · refine gj_goq gj_clT ok_17 [2, 158, 168] ?_
      show gj_Goes E om0 mt_17 2 [some (.ref 55), some (.ref 42), some (.int (x2 + (i3 1))), some (.long (SJ 43 (gj_n x2))), none, some (.long (SJ 44 (gj_n x2))), none, some (.long (SJ 45 (gj_n x2))), none, none, none, none, none] [] SI SJ (QV Q)
      exact gj_fh ((h.2 c1).2.1 (fun z_ => c3 (lgc_eq.mpr z_))) (And.intro (Or.inr rfl) (And.intro (Or.inr rfl) (And.intro (Or.inr rfl) (And.intro (Or.inl rfl) (And.intro (Or.inl rfl) (And.intro (Or.inl rfl) (And.intro (Or.inl rfl) (And.intro (Or.inl rfl) (And.intro (Or.inl rfl) (And.intro (Or.inl rfl) (And.intro (Or.inl rfl) (And.intro (Or.inl rfl) (And.intro (Or.inl rfl) trivial)))))))))))))
    · refine ⟨fun c4 => ?_, fun c4 => ?_⟩
      · refine gj_goq gj_clT ok_17 [2, 158, 168] ?_
        show gj_Goes E om0 mt_17 2 [some (.ref 55), some (.ref 42), some (.int (x2 + (i3 1))), some (.long (SJ 43 (gj_n x2))), none, some (.long (SJ 44 (gj_n x2))), none, some (.long (SJ 45 (gj_n x2))), none, none, none, none, none] [] SI SJ (QV Q)
        exact gj_fh (((h.2 c1).2.2 (lgc_eq.mp c3)).1 (fun z_ => c4 (lgc_eq.mpr z_))) (And.intro (Or.inr rfl) (And.intro (Or.inr rfl) (And.intro (Or.inr rfl) (And.intro (Or.inl rfl) (And.intro (Or.inl rfl) (And.intro (Or.inl rfl) (And.intro (Or.inl rfl) (And.intro (Or.inl rfl) (And.intro (Or.inl rfl) (And.intro (Or.inl rfl) (And.intro (Or.inl rfl) (And.intro (Or.inl rfl) (And.intro (Or.inl rfl) trivial)))))))))))))
      · refine ⟨fun c5 => ?_, fun c5 => ?_⟩
        · refine gj_goq gj_clT ok_17 [2, 158, 168] ?_
          show ((lg_cmp (SJ 43 (gj_n x2)) (i6 0)) = 0 → gj_Goes E om0 mt_17 101 [some (.ref 55), some (.ref 42), some (.int x2), some (.long (SJ 43 (gj_n x2))), none, some (.long (SJ 44 (gj_n x2))), none, some (.long (SJ 45 (gj_n x2))), none, none, none, none, none] [] SI SJ (QV Q)) ∧ (¬ (lg_cmp (SJ 43 (gj_n x2)) (i6 0)) = 0 → gj_Goes E om0 mt_17 119 [some (.ref 55), some (.ref 42), some (.int x2), some (.long (SJ 43 (gj_n x2))), none, some (.long (SJ 44 (gj_n x2))), none, some (.long (SJ 45 (gj_n x2))), none, none, none, none, none] [(.long (SJ 55 9))] SI SJ (QV Q))
          refine ⟨fun c6 => ?_, fun c6 => ?_⟩
          · refine gj_goq gj_clT ok_17 [2, 158, 168] ?_
            show ((lg_cmp (SJ 44 (gj_n x2)) (i6 0)) = 0 → gj_Goes E om0 mt_17 115 [some (.ref 55), some (.ref 42), some (.int x2), some (.long (SJ 43 (gj_n x2))), none, some (.long (SJ 44 (gj_n x2))), none, some (.long (SJ 45 (gj_n x2))), none, none, none, none, none] [] SI SJ (QV Q)) ∧ (¬ (lg_cmp (SJ 44 (gj_n x2)) (i6 0)) = 0 → gj_Goes E om0 mt_17 119 [some (.ref 55), some (.ref 42), some (.int x2), some (.long (SJ 43 (gj_n x2))), none, some (.long (SJ 44 (gj_n x2))), none, some (.long (SJ 45 (gj_n x2))), none, none, none, none, none] [(.long (SJ 55 10))] SI SJ (QV Q))
            refine ⟨fun c7 => ?_, fun c7 => ?_⟩
            · refine gj_goq gj_clT ok_17 [2, 158, 168] ?_
              show ((lg_cmp (SJ 43 (gj_n x2)) (i6 0)) = 0 → gj_Goes E om0 mt_17 131 [some (.ref 55), some (.ref 42), some (.int x2), some (.long (SJ 43 (gj_n x2))), none, some (.long (SJ 44 (gj_n x2))), none, some (.long (SJ 45 (gj_n x2))), none, some (.long (SJ 55 11)), none, none, none] [] SI SJ (QV Q)) ∧ (¬ (lg_cmp (SJ 43 (gj_n x2)) (i6 0)) = 0 → gj_Goes E om0 mt_17 145 [some (.ref 55), some (.ref 42), some (.int x2), some (.long (SJ 43 (gj_n x2))), none, some (.long (SJ 44 (gj_n x2))), none, some (.long (SJ 45 (gj_n x2))), none, some (.long (SJ 55 11)), none, none, none] [(.long (SJ 43 (gj_n x2)))] SI SJ (QV Q))
              refine ⟨fun c8 => ?_, fun c8 => ?_⟩
              · refine gj_goq gj_clT ok_17 [2, 158, 168] ?_
                show ((lg_cmp (SJ 44 (gj_n x2)) (i6 0)) = 0 → gj_Goes E om0 mt_17 143 [some (.ref 55), some (.ref 42), some (.int x2), some (.long (SJ 43 (gj_n x2))), none, some (.long (SJ 44 (gj_n x2))), none, some (.long (SJ 45 (gj_n x2))), none, some (.long (SJ 55 11)), none, none, none] [] SI SJ (QV Q)) ∧ (¬ (lg_cmp (SJ 44 (gj_n x2)) (i6 0)) = 0 → gj_Goes E om0 mt_17 145 [some (.ref 55), some (.ref 42), some (.int x2), some (.long (SJ 43 (gj_n x2))), none, some (.long (SJ 44 (gj_n x2))), none, some (.long (SJ 45 (gj_n x2))), none, some (.long (SJ 55 11)), none, none, none] [(.long (SJ 44 (gj_n x2)))] SI SJ (QV Q))
                refine ⟨fun c9 => ?_, fun c9 => ?_⟩
                · refine gj_goq gj_clT ok_17 [2, 158, 168] ?_
                  show gj_Do E om0 (gj_mt 21) [(.ref 55), (.int (i3 1)), (.long (SJ 55 11)), (.long (i6 0)), (.long (i6 0)), (.long (SJ 45 (gj_n x2)))] SI SJ _
                  refine gj_Do.mono ((((((((h.2 c1).2.2 (lgc_eq.mp c3)).2 (lgc_eq.mp c4)).1 (lgc_eq.mp c5)).1 (lgc_eq.mp c6)).1 (lgc_eq.mp c7)).1 (lgc_eq.mp c8)).1 (lgc_eq.mp c9)) (fun v_ SI2 SJ2 h_ => ?_)
                  obtain ⟨r1, rfl, q10⟩ := h_
                  show gj_Goes E om0 mt_17 158 [some (.ref 55), some (.ref 42), some (.int x2), some (.long (SJ 43 (gj_n x2))), none, some (.long (SJ 44 (gj_n x2))), none, some (.long (SJ 45 (gj_n x2))), none, some (.long (SJ 55 11)), none, some (.long (SJ 45 (gj_n x2))), none] [(.int r1)] SI2 SJ2 (QV Q)
                  refine gj_goq gj_clT ok_17 [2, 158, 168] ?_
                  show (r1 = 0 → gj_Goes E om0 mt_17 168 [some (.ref 55), some (.ref 42), some (.int x2), some (.long (SJ 43 (gj_n x2))), none, some (.long (SJ 44 (gj_n x2))), none, some (.long (SJ 45 (gj_n x2))), none, some (.long (SJ 55 11)), none, some (.long (SJ 45 (gj_n x2))), none] [] SI2 SJ2 (QV Q)) ∧ (¬ r1 = 0 → gj_Do E om0 (gj_mt 22) [(.ref 55), (.int x2), (.int (i3 0)), (.int (i3 0))] SI2 SJ2 _)
                  refine ⟨fun c11 => ?_, fun c11 => ?_⟩
                  · refine gj_goq gj_clT ok_17 [2, 158, 168] ?_
                    show gj_Goes E om0 mt_17 2 [some (.ref 55), some (.ref 42), some (.int (x2 + (i3 1))), some (.long (SJ 43 (gj_n x2))), none, some (.long (SJ 44 (gj_n x2))), none, some (.long (SJ 45 (gj_n x2))), none, some (.long (SJ 55 11)), none, some (.long (SJ 45 (gj_n x2))), none] [] SI2 SJ2 (QV Q)
                    exact gj_fh (q10.1 c11) (And.intro (Or.inr rfl) (And.intro (Or.inr rfl) (And.intro (Or.inr rfl) (And.intro (Or.inl rfl) (And.intro (Or.inl rfl) (And.intro (Or.inl rfl) (And.intro (Or.inl rfl) (And.intro (Or.inl rfl) (And.intro (Or.inl rfl) (And.intro (Or.inl rfl) (And.intro (Or.inl rfl) (And.intro (Or.inl rfl) (And.intro (Or.inl rfl) trivial)))))))))))))
                  · refine gj_Do.mono (q10.2 c11) (fun v_ SI4 SJ4 h_ => ?_)
                    obtain ⟨rfl, q12⟩ := h_
                    show gj_Goes E om0 mt_17 168 [some (.ref 55), some (.ref 42), some (.int x2), some (.long (SJ 43 (gj_n x2))), none, some (.long (SJ 44 (gj_n x2))), none, some (.long (SJ 45 (gj_n x2))), none, some (.long (SJ 55 11)), none, some (.long (SJ 45 (gj_n x2))), none] [] SI4 SJ4 (QV Q)
                    refine gj_goq gj_clT ok_17 [2, 158, 168] ?_
                    show gj_Goes E om0 mt_17 2 [some (.ref 55), some (.ref 42), some (.int (x2 + (i3 1))), some (.long (SJ 43 (gj_n x2))), none, some (.long (SJ 44 (gj_n x2))), none, some (.long (SJ 45 (gj_n x2))), none, some (.long (SJ 55 11)), none, some (.long (SJ 45 (gj_n x2))), none] [] SI4 SJ4 (QV Q)
                    exact gj_fh q12 (And.intro (Or.inr rfl) (And.intro (Or.inr rfl) (And.intro (Or.inr rfl) (And.intro (Or.inl rfl) (And.intro (Or.inl rfl) (And.intro (Or.inl rfl) (And.intro (Or.inl rfl) (And.intro (Or.inl rfl) (And.intro (Or.inl rfl) (And.intro (Or.inl rfl) (And.intro (Or.inl rfl) (And.intro (Or.inl rfl) (And.intro (Or.inl rfl) trivial)))))))))))))
                · refine gj_goq gj_clT ok_17 [2, 158, 168] ?_
                  show gj_Do E om0 (gj_mt 21) [(.ref 55), (.int (i3 1)), (.long (SJ 55 11)), (.long (i6 0)), (.long (i6 0)), (.long (SJ 44 (gj_n x2)))] SI SJ _
                  refine gj_Do.mono ((((((((h.2 c1).2.2 (lgc_eq.mp c3)).2 (lgc_eq.mp c4)).1 (lgc_eq.mp c5)).1 (lgc_eq.mp c6)).1 (lgc_eq.mp c7)).1 (lgc_eq.mp c8)).2 (fun z_ => c9 (lgc_eq.mpr z_))) (fun v_ SI6 SJ6 h_ => ?_)
                  obtain ⟨r5, rfl, q13⟩ := h_
                  show gj_Goes E om0 mt_17 158 [some (.ref 55), some (.ref 42), some (.int x2), some (.long (SJ 43 (gj_n x2))), none, some (.long (SJ 44 (gj_n x2))), none, some (.long (SJ 45 (gj_n x2))), none, some (.long (SJ 55 11)), none, some (.long (SJ 44 (gj_n x2))), none] [(.int r5)] SI6 SJ6 (QV Q)
                  refine gj_goq gj_clT ok_17 [2, 158, 168] ?_
                  show (r5 = 0 → gj_Goes E om0 mt_17 168 [some (.ref 55), some (.ref 42), some (.int x2), some (.long (SJ 43 (gj_n x2))), none, some (.long (SJ 44 (gj_n x2))), none, some (.long (SJ 45 (gj_n x2))), none, some (.long (SJ 55 11)), none, some (.long (SJ 44 (gj_n x2))), none] [] SI6 SJ6 (QV Q)) ∧ (¬ r5 = 0 → gj_Do E om0 (gj_mt 22) [(.ref 55), (.int x2), (.int (i3 0)), (.int (i3 0))] SI6 SJ6 _)
                  refine ⟨fun c14 => ?_, fun c14 => ?_⟩
                  · refine gj_goq gj_clT ok_17 [2, 158, 168] ?_
                    show gj_Goes E om0 mt_17 2 [some (.ref 55), some (.ref 42), some (.int (x2 + (i3 1))), some (.long (SJ 43 (gj_n x2))), none, some (.long (SJ 44 (gj_n x2))), none, some (.long (SJ 45 (gj_n x2))), none, some (.long (SJ 55 11)), none, some (.long (SJ 44 (gj_n x2))), none] [] SI6 SJ6 (QV Q)
                    exact gj_fh (q13.1 c14) (And.intro (Or.inr rfl) (And.intro (Or.inr rfl) (And.intro (Or.inr rfl) (And.intro (Or.inl rfl) (And.intro (Or.inl rfl) (And.intro (Or.inl rfl) (And.intro (Or.inl rfl) (And.intro (Or.inl rfl) (And.intro (Or.inl rfl) (And.intro (Or.inl rfl) (And.intro (Or.inl rfl) (And.intro (Or.inl rfl) (And.intro (Or.inl rfl) trivial)))))))))))))
                  · refine gj_Do.mono (q13.2 c14) (fun v_ SI8 SJ8 h_ => ?_)
                    obtain ⟨rfl, q15⟩ := h_
                    show gj_Goes E om0 mt_17 168 [some (.ref 55), some (.ref 42), some (.int x2), some (.long (SJ 43 (gj_n x2))), none, some (.long (SJ 44 (gj_n x2))), none, some (.long (SJ 45 (gj_n x2))), none, some (.long (SJ 55 11)), none, some (.long (SJ 44 (gj_n x2))), none] [] SI8 SJ8 (QV Q)
                    refine gj_goq gj_clT ok_17 [2, 158, 168] ?_
                    show gj_Goes E om0 mt_17 2 [some (.ref 55), some (.ref 42), some (.int (x2 + (i3 1))), some (.long (SJ 43 (gj_n x2))), none, some (.long (SJ 44 (gj_n x2))), none, some (.long (SJ 45 (gj_n x2))), none, some (.long (SJ 55 11)), none, some (.long (SJ 44 (gj_n x2))), none] [] SI8 SJ8 (QV Q)
                    exact gj_fh q15 (And.intro (Or.inr rfl) (And.intro (Or.inr rfl) (And.intro (Or.inr rfl) (And.intro (Or.inl rfl) (And.intro (Or.inl rfl) (And.intro (Or.inl rfl) (And.intro (Or.inl rfl) (And.intro (Or.inl rfl) (And.intro (Or.inl rfl) (And.intro (Or.inl rfl) (And.intro (Or.inl rfl) (And.intro (Or.inl rfl) (And.intro (Or.inl rfl) trivial)))))))))))))
              · refine gj_goq gj_clT ok_17 [2, 158, 168] ?_
                show gj_Do E om0 (gj_mt 21) [(.ref 55), (.int (i3 1)), (.long (SJ 55 11)), (.long (i6 0)), (.long (i6 0)), (.long (SJ 43 (gj_n x2)))] SI SJ _
                refine gj_Do.mono (((((((h.2 c1).2.2 (lgc_eq.mp c3)).2 (lgc_eq.mp c4)).1 (lgc_eq.mp c5)).1 (lgc_eq.mp c6)).1 (lgc_eq.mp c7)).2 (fun z_ => c8 (lgc_eq.mpr z_))) (fun v_ SI10 SJ10 h_ => ?_)
                obtain ⟨r9, rfl, q16⟩ := h_
                show gj_Goes E om0 mt_17 158 [some (.ref 55), some (.ref 42), some (.int x2), some (.long (SJ 43 (gj_n x2))), none, some (.long (SJ 44 (gj_n x2))), none, some (.long (SJ 45 (gj_n x2))), none, some (.long (SJ 55 11)), none, some (.long (SJ 43 (gj_n x2))), none] [(.int r9)] SI10 SJ10 (QV Q)
                refine gj_goq gj_clT ok_17 [2, 158, 168] ?_
                show (r9 = 0 → gj_Goes E om0 mt_17 168 [some (.ref 55), some (.ref 42), some (.int x2), some (.long (SJ 43 (gj_n x2))), none, some (.long (SJ 44 (gj_n x2))), none, some (.long (SJ 45 (gj_n x2))), none, some (.long (SJ 55 11)), none, some (.long (SJ 43 (gj_n x2))), none] [] SI10 SJ10 (QV Q)) ∧ (¬ r9 = 0 → gj_Do E om0 (gj_mt 22) [(.ref 55), (.int x2), (.int (i3 0)), (.int (i3 0))] SI10 SJ10 _)
                refine ⟨fun c17 => ?_, fun c17 => ?_⟩
                · refine gj_goq gj_clT ok_17 [2, 158, 168] ?_
                  show gj_Goes E om0 mt_17 2 [some (.ref 55), some (.ref 42), some (.int (x2 + (i3 1))), some (.long (SJ 43 (gj_n x2))), none, some (.long (SJ 44 (gj_n x2))), none, some (.long (SJ 45 (gj_n x2))), none, some (.long (SJ 55 11)), none, some (.long (SJ 43 (gj_n x2))), none] [] SI10 SJ10 (QV Q)
                  exact gj_fh (q16.1 c17) (And.intro (Or.inr rfl) (And.intro (Or.inr rfl) (And.intro (Or.inr rfl) (And.intro (Or.inl rfl) (And.intro (Or.inl rfl) (And.intro (Or.inl rfl) (And.intro (Or.inl rfl) (And.intro (Or.inl rfl) (And.intro (Or.inl rfl) (And.intro (Or.inl rfl) (And.intro (Or.inl rfl) (And.intro (Or.inl rfl) (And.intro (Or.inl rfl) trivial)))))))))))))
                · refine gj_Do.mono (q16.2 c17) (fun v_ SI12 SJ12 h_ => ?_)
                  obtain ⟨rfl, q18⟩ := h_
                  show gj_Goes E om0 mt_17 168 [some (.ref 55), some (.ref 42), some (.int x2), some (.long (SJ 43 (gj_n x2))), none, some (.long (SJ 44 (gj_n x2))), none, some (.long (SJ 45 (gj_n x2))), none, some (.long (SJ 55 11)), none, some (.long (SJ 43 (gj_n x2))), none] [] SI12 SJ12 (QV Q)
                  refine gj_goq gj_clT ok_17 [2, 158, 168] ?_
                  show gj_Goes E om0 mt_17 2 [some (.ref 55), some (.ref 42), some (.int (x2 + (i3 1))), some (.long (SJ 43 (gj_n x2))), none, some (.long (SJ 44 (gj_n x2))), none, some (.long (SJ 45 (gj_n x2))), none, some (.long (SJ 55 11)), none, some (.long (SJ 43 (gj_n x2))), none] [] SI12 SJ12 (QV Q)
                  exact gj_fh q18 (And.intro (Or.inr rfl) (And.intro (Or.inr rfl) (And.intro (Or.inr rfl) (And.intro (Or.inl rfl) (And.intro (Or.inl rfl) (And.intro (Or.inl rfl) (And.intro (Or.inl rfl) (And.intro (Or.inl rfl) (And.intro (Or.inl rfl) (And.intro (Or.inl rfl) (And.intro (Or.inl rfl) (And.intro (Or.inl rfl) (And.intro (Or.inl rfl) trivial)))))))))))))
            · refine gj_goq gj_clT ok_17 [2, 158, 168] ?_
              show ((lg_cmp (SJ 43 (gj_n x2)) (i6 0)) = 0 → gj_Goes E om0 mt_17 131 [some (.ref 55), some (.ref 42), some (.int x2), some (.long (SJ 43 (gj_n x2))), none, some (.long (SJ 44 (gj_n x2))), none, some (.long (SJ 45 (gj_n x2))), none, some (.long (SJ 55 10)), none, none, none] [] SI SJ (QV Q)) ∧ (¬ (lg_cmp (SJ 43 (gj_n x2)) (i6 0)) = 0 → gj_Goes E om0 mt_17 145 [some (.ref 55), some (.ref 42), some (.int x2), some (.long (SJ 43 (gj_n x2))), none, some (.long (SJ 44 (gj_n x2))), none, some (.long (SJ 45 (gj_n x2))), none, some (.long (SJ 55 10)), none, none, none] [(.long (SJ 43 (gj_n x2)))] SI SJ (QV Q))
              refine ⟨fun c19 => ?_, fun c19 => ?_⟩
              · refine gj_goq gj_clT ok_17 [2, 158, 168] ?_
                show ((lg_cmp (SJ 44 (gj_n x2)) (i6 0)) = 0 → gj_Goes E om0 mt_17 143 [some (.ref 55), some (.ref 42), some (.int x2), some (.long (SJ 43 (gj_n x2))), none, some (.long (SJ 44 (gj_n x2))), none, some (.long (SJ 45 (gj_n x2))), none, some (.long (SJ 55 10)), none, none, none] [] SI SJ (QV Q)) ∧ (¬ (lg_cmp (SJ 44 (gj_n x2)) (i6 0)) = 0 → gj_Goes E om0 mt_17 145 [some (.ref 55), some (.ref 42), some (.int x2), some (.long (SJ 43 (gj_n x2))), none, some (.long (SJ 44 (gj_n x2))), none, some (.long (SJ 45 (gj_n x2))), none, some (.long (SJ 55 10)), none, none, none] [(.long (SJ 44 (gj_n x2)))] SI SJ (QV Q))
                refine ⟨fun c20 => ?_, fun c20 => ?_⟩
                · refine gj_goq gj_clT ok_17 [2, 158, 168] ?_
                  show gj_Do E om0 (gj_mt 21) [(.ref 55), (.int (i3 1)), (.long (SJ 55 10)), (.long (i6 0)), (.long (i6 0)), (.long (SJ 45 (gj_n x2)))] SI SJ _
                  refine gj_Do.mono ((((((((h.2 c1).2.2 (lgc_eq.mp c3)).2 (lgc_eq.mp c4)).1 (lgc_eq.mp c5)).1 (lgc_eq.mp c6)).2 (fun z_ => c7 (lgc_eq.mpr z_))).1 (lgc_eq.mp c19)).1 (lgc_eq.mp c20)) (fun v_ SI14 SJ14 h_ => ?_)
                  obtain ⟨r13, rfl, q21⟩ := h_
                  show gj_Goes E om0 mt_17 158 [some (.ref 55), some (.ref 42), some (.int x2), some (.long (SJ 43 (gj_n x2))), none, some (.long (SJ 44 (gj_n x2))), none, some (.long (SJ 45 (gj_n x2))), none, some (.long (SJ 55 10)), none, some (.long (SJ 45 (gj_n x2))), none] [(.int r13)] SI14 SJ14 (QV Q)
                  refine gj_goq gj_clT ok_17 [2, 158, 168] ?_
                  show (r13 = 0 → gj_Goes E om0 mt_17 168 [some (.ref 55), some (.ref 42), some (.int x2), some (.long (SJ 43 (gj_n x2))), none, some (.long (SJ 44 (gj_n x2))), none, some (.long (SJ 45 (gj_n x2))), none, some (.long (SJ 55 10)), none, some (.long (SJ 45 (gj_n x2))), none] [] SI14 SJ14 (QV Q)) ∧ (¬ r13 = 0 → gj_Do E om0 (gj_mt 22) [(.ref 55), (.int x2), (.int (i3 0)), (.int (i3 0))] SI14 SJ14 _)
                  refine ⟨fun c22 => ?_, fun c22 => ?_⟩
                  · refine gj_goq gj_clT ok_17 [2, 158, 168] ?_
                    show gj_Goes E om0 mt_17 2 [some (.ref 55), some (.ref 42), some (.int (x2 + (i3 1))), some (.long (SJ 43 (gj_n x2))), none, some (.long (SJ 44 (gj_n x2))), none, some (.long (SJ 45 (gj_n x2))), none, some (.long (SJ 55 10)), none, some (.long (SJ 45 (gj_n x2))), none] [] SI14 SJ14 (QV Q)
                    exact gj_fh (q21.1 c22) (And.intro (Or.inr rfl) (And.intro (Or.inr rfl) (And.intro (Or.inr rfl) (And.intro (Or.inl rfl) (And.intro (Or.inl rfl) (And.intro (Or.inl rfl) (And.intro (Or.inl rfl) (And.intro (Or.inl rfl) (And.intro (Or.inl rfl) (And.intro (Or.inl rfl) (And.intro (Or.inl rfl) (And.intro (Or.inl rfl) (And.intro (Or.inl rfl) trivial)))))))))))))
                  · refine gj_Do.mono (q21.2 c22) (fun v_ SI16 SJ16 h_ => ?_)
                    obtain ⟨rfl, q23⟩ := h_
                    show gj_Goes E om0 mt_17 168 [some (.ref 55), some (.ref 42), some (.int x2), some (.long (SJ 43 (gj_n x2))), none, some (.long (SJ 44 (gj_n x2))), none, some (.long (SJ 45 (gj_n x2))), none, some (.long (SJ 55 10)), none, some (.long (SJ 45 (gj_n x2))), none] [] SI16 SJ16 (QV Q)
                    refine gj_goq gj_clT ok_17 [2, 158, 168] ?_
                    show gj_Goes E om0 mt_17 2 [some (.ref 55), some (.ref 42), some (.int (x2 + (i3 1))), some (.long (SJ 43 (gj_n x2))), none, some (.long (SJ 44 (gj_n x2))), none, some (.long (SJ 45 (gj_n x2))), none, some (.long (SJ 55 10)), none, some (.long (SJ 45 (gj_n x2))), none] [] SI16 SJ16 (QV Q)
                    exact gj_fh q23 (And.intro (Or.inr rfl) (And.intro (Or.inr rfl) (And.intro (Or.inr rfl) (And.intro (Or.inl rfl) (And.intro (Or.inl rfl) (And.intro (Or.inl rfl) (And.intro (Or.inl rfl) (And.intro (Or.inl rfl) (And.intro (Or.inl rfl) (And.intro (Or.inl rfl) (And.intro (Or.inl rfl) (And.intro (Or.inl rfl) (And.intro (Or.inl rfl) trivial)))))))))))))
                · refine gj_goq gj_clT ok_17 [2, 158, 168] ?_
                  show gj_Do E om0 (gj_mt 21) [(.ref 55), (.int (i3 1)), (.long (SJ 55 10)), (.long (i6 0)), (.long (i6 0)), (.long (SJ 44 (gj_n x2)))] SI SJ _
                  refine gj_Do.mono ((((((((h.2 c1).2.2 (lgc_eq.mp c3)).2 (lgc_eq.mp c4)).1 (lgc_eq.mp c5)).1 (lgc_eq.mp c6)).2 (fun z_ => c7 (lgc_eq.mpr z_))).1 (lgc_eq.mp c19)).2 (fun z_ => c20 (lgc_eq.mpr z_))) (fun v_ SI18 SJ18 h_ => ?_)
                  obtain ⟨r17, rfl, q24⟩ := h_
                  show gj_Goes E om0 mt_17 158 [some (.ref 55), some (.ref 42), some (.int x2), some (.long (SJ 43 (gj_n x2))), none, some (.long (SJ 44 (gj_n x2))), none, some (.long (SJ 45 (gj_n x2))), none, some (.long (SJ 55 10)), none, some (.long (SJ 44 (gj_n x2))), none] [(.int r17)] SI18 SJ18 (QV Q)
                  refine gj_goq gj_clT ok_17 [2, 158, 168] ?_
                  show (r17 = 0 → gj_Goes E om0 mt_17 168 [some (.ref 55), some (.ref 42), some (.int x2), some (.long (SJ 43 (gj_n x2))), none, some (.long (SJ 44 (gj_n x2))), none, some (.long (SJ 45 (gj_n x2))), none, some (.long (SJ 55 10)), none, some (.long (SJ 44 (gj_n x2))), none] [] SI18 SJ18 (QV Q)) ∧ (¬ r17 = 0 → gj_Do E om0 (gj_mt 22) [(.ref 55), (.int x2), (.int (i3 0)), (.int (i3 0))] SI18 SJ18 _)
                  refine ⟨fun c25 => ?_, fun c25 => ?_⟩
                  · refine gj_goq gj_clT ok_17 [2, 158, 168] ?_
                    show gj_Goes E om0 mt_17 2 [some (.ref 55), some (.ref 42), some (.int (x2 + (i3 1))), some (.long (SJ 43 (gj_n x2))), none, some (.long (SJ 44 (gj_n x2))), none, some (.long (SJ 45 (gj_n x2))), none, some (.long (SJ 55 10)), none, some (.long (SJ 44 (gj_n x2))), none] [] SI18 SJ18 (QV Q)
                    exact gj_fh (q24.1 c25) (And.intro (Or.inr rfl) (And.intro (Or.inr rfl) (And.intro (Or.inr rfl) (And.intro (Or.inl rfl) (And.intro (Or.inl rfl) (And.intro (Or.inl rfl) (And.intro (Or.inl rfl) (And.intro (Or.inl rfl) (And.intro (Or.inl rfl) (And.intro (Or.inl rfl) (And.intro (Or.inl rfl) (And.intro (Or.inl rfl) (And.intro (Or.inl rfl) trivial)))))))))))))
                  · refine gj_Do.mono (q24.2 c25) (fun v_ SI20 SJ20 h_ => ?_)
                    obtain ⟨rfl, q26⟩ := h_
                    show gj_Goes E om0 mt_17 168 [some (.ref 55), some (.ref 42), some (.int x2), some (.long (SJ 43 (gj_n x2))), none, some (.long (SJ 44 (gj_n x2))), none, some (.long (SJ 45 (gj_n x2))), none, some (.long (SJ 55 10)), none, some (.long (SJ 44 (gj_n x2))), none] [] SI20 SJ20 (QV Q)
                    refine gj_goq gj_clT ok_17 [2, 158, 168] ?_
                    show gj_Goes E om0 mt_17 2 [some (.ref 55), some (.ref 42), some (.int (x2 + (i3 1))), some (.long (SJ 43 (gj_n x2))), none, some (.long (SJ 44 (gj_n x2))), none, some (.long (SJ 45 (gj_n x2))), none, some (.long (SJ 55 10)), none, some (.long (SJ 44 (gj_n x2))), none] [] SI20 SJ20 (QV Q)
                    exact gj_fh q26 (And.intro (Or.inr rfl) (And.intro (Or.inr rfl) (And.intro (Or.inr rfl) (And.intro (Or.inl rfl) (And.intro (Or.inl rfl) (And.intro (Or.inl rfl) (And.intro (Or.inl rfl) (And.intro (Or.inl rfl) (And.intro (Or.inl rfl) (And.intro (Or.inl rfl) (And.intro (Or.inl rfl) (And.intro (Or.inl rfl) (And.intro (Or.inl rfl) trivial)))))))))))))
              · refine gj_goq gj_clT ok_17 [2, 158, 168] ?_
                show gj_Do E om0 (gj_mt 21) [(.ref 55), (.int (i3 1)), (.long (SJ 55 10)), (.long (i6 0)), (.long (i6 0)), (.long (SJ 43 (gj_n x2)))] SI SJ _
                refine gj_Do.mono (((((((h.2 c1).2.2 (lgc_eq.mp c3)).2 (lgc_eq.mp c4)).1 (lgc_eq.mp c5)).1 (lgc_eq.mp c6)).2 (fun z_ => c7 (lgc_eq.mpr z_))).2 (fun z_ => c19 (lgc_eq.mpr z_))) (fun v_ SI22 SJ22 h_ => ?_)
                obtain ⟨r21, rfl, q27⟩ := h_
                show gj_Goes E om0 mt_17 158 [some (.ref 55), some (.ref 42), some (.int x2), some (.long (SJ 43 (gj_n x2))), none, some (.long (SJ 44 (gj_n x2))), none, some (.long (SJ 45 (gj_n x2))), none, some (.long (SJ 55 10)), none, some (.long (SJ 43 (gj_n x2))), none] [(.int r21)] SI22 SJ22 (QV Q)
                refine gj_goq gj_clT ok_17 [2, 158, 168] ?_
                show (r21 = 0 → gj_Goes E om0 mt_17 168 [some (.ref 55), some (.ref 42), some (.int x2), some (.long (SJ 43 (gj_n x2))), none, some (.long (SJ 44 (gj_n x2))), none, some (.long (SJ 45 (gj_n x2))), none, some (.long (SJ 55 10)), none, some (.long (SJ 43 (gj_n x2))), none] [] SI22 SJ22 (QV Q)) ∧ (¬ r21 = 0 → gj_Do E om0 (gj_mt 22) [(.ref 55), (.int x2), (.int (i3 0)), (.int (i3 0))] SI22 SJ22 _)
                refine ⟨fun c28 => ?_, fun c28 => ?_⟩
                · refine gj_goq gj_clT ok_17 [2, 158, 168] ?_
                  show gj_Goes E om0 mt_17 2 [some (.ref 55), some (.ref 42), some (.int (x2 + (i3 1))), some (.long (SJ 43 (gj_n x2))), none, some (.long (SJ 44 (gj_n x2))), none, some (.long (SJ 45 (gj_n x2))), none, some (.long (SJ 55 10)), none, some (.long (SJ 43 (gj_n x2))), none] [] SI22 SJ22 (QV Q)
                  exact gj_fh (q27.1 c28) (And.intro (Or.inr rfl) (And.intro (Or.inr rfl) (And.intro (Or.inr rfl) (And.intro (Or.inl rfl) (And.intro (Or.inl rfl) (And.intro (Or.inl rfl) (And.intro (Or.inl rfl) (And.intro (Or.inl rfl) (And.intro (Or.inl rfl) (And.intro (Or.inl rfl) (And.intro (Or.inl rfl) (And.intro (Or.inl rfl) (And.intro (Or.inl rfl) trivial)))))))))))))
                · refine gj_Do.mono (q27.2 c28) (fun v_ SI24 SJ24 h_ => ?_)
                  obtain ⟨rfl, q29⟩ := h_
                  show gj_Goes E om0 mt_17 168 [some (.ref 55), some (.ref 42), some (.int x2), some (.long (SJ 43 (gj_n x2))), none, some (.long (SJ 44 (gj_n x2))), none, some (.long (SJ 45 (gj_n x2))), none, some (.long (SJ 55 10)), none, some (.long (SJ 43 (gj_n x2))), none] [] SI24 SJ24 (QV Q)
                  refine gj_goq gj_clT ok_17 [2, 158, 168] ?_
                  show gj_Goes E om0 mt_17 2 [some (.ref 55), some (.ref 42), some (.int (x2 + (i3 1))), some (.long (SJ 43 (gj_n x2))), none, some (.long (SJ 44 (gj_n x2))), none, some (.long (SJ 45 (gj_n x2))), none, some (.long (SJ 55 10)), none, some (.long (SJ 43 (gj_n x2))), none] [] SI24 SJ24 (QV Q)
                  exact gj_fh q29 (And.intro (Or.inr rfl) (And.intro (Or.inr rfl) (And.intro (Or.inr rfl) (And.intro (Or.inl rfl) (And.intro (Or.inl rfl) (And.intro (Or.inl rfl) (And.intro (Or.inl rfl) (And.intro (Or.inl rfl) (And.intro (Or.inl rfl) (And.intro (Or.inl rfl) (And.intro (Or.inl rfl) (And.intro (Or.inl rfl) (And.intro (Or.inl rfl) trivial)))))))))))))
          · refine gj_goq gj_clT ok_17 [2, 158, 168] ?_
            show ((lg_cmp (SJ 43 (gj_n x2)) (i6 0)) = 0 → gj_Goes E om0 mt_17 131 [some (.ref 55), some (.ref 42), some (.int x2), some (.long (SJ 43 (gj_n x2))), none, some (.long (SJ 44 (gj_n x2))), none, some (.long (SJ 45 (gj_n x2))), none, some (.long (SJ 55 9)), none, none, none] [] SI SJ (QV Q)) ∧ (¬ (lg_cmp (SJ 43 (gj_n x2)) (i6 0)) = 0 → gj_Goes E om0 mt_17 145 [some (.ref 55), some (.ref 42), some (.int x2), some (.long (SJ 43 (gj_n x2))), none, some (.long (SJ 44 (gj_n x2))), none, some (.long (SJ 45 (gj_n x2))), none, some (.long (SJ 55 9)), none, none, none] [(.long (SJ 43 (gj_n x2)))] SI SJ (QV Q))
            refine ⟨fun c30 => ?_, fun c30 => ?_⟩
            · refine gj_goq gj_clT ok_17 [2, 158, 168] ?_
              show ((lg_cmp (SJ 44 (gj_n x2)) (i6 0)) = 0 → gj_Goes E om0 mt_17 143 [some (.ref 55), some (.ref 42), some (.int x2), some (.long (SJ 43 (gj_n x2))), none, some (.long (SJ 44 (gj_n x2))), none, some (.long (SJ 45 (gj_n x2))), none, some (.long (SJ 55 9)), none, none, none] [] SI SJ (QV Q)) ∧ (¬ (lg_cmp (SJ 44 (gj_n x2)) (i6 0)) = 0 → gj_Goes E om0 mt_17 145 [some (.ref 55), some (.ref 42), some (.int x2), some (.long (SJ 43 (gj_n x2))), none, some (.long (SJ 44 (gj_n x2))), none, some (.long (SJ 45 (gj_n x2))), none, some (.long (SJ 55 9)), none, none, none] [(.long (SJ 44 (gj_n x2)))] SI SJ (QV Q))
              refine ⟨fun c31 => ?_, fun c31 => ?_⟩
              · refine gj_goq gj_clT ok_17 [2, 158, 168] ?_
                show gj_Do E om0 (gj_mt 21) [(.ref 55), (.int (i3 1)), (.long (SJ 55 9)), (.long (i6 0)), (.long (i6 0)), (.long (SJ 45 (gj_n x2)))] SI SJ _
                refine gj_Do.mono (((((((h.2 c1).2.2 (lgc_eq.mp c3)).2 (lgc_eq.mp c4)).1 (lgc_eq.mp c5)).2 (fun z_ => c6 (lgc_eq.mpr z_))).1 (lgc_eq.mp c30)).1 (lgc_eq.mp c31)) (fun v_ SI26 SJ26 h_ => ?_)
                obtain ⟨r25, rfl, q32⟩ := h_
                show gj_Goes E om0 mt_17 158 [some (.ref 55), some (.ref 42), some (.int x2), some (.long (SJ 43 (gj_n x2))), none, some (.long (SJ 44 (gj_n x2))), none, some (.long (SJ 45 (gj_n x2))), none, some (.long (SJ 55 9)), none, some (.long (SJ 45 (gj_n x2))), none] [(.int r25)] SI26 SJ26 (QV Q)
                refine gj_goq gj_clT ok_17 [2, 158, 168] ?_
                show (r25 = 0 → gj_Goes E om0 mt_17 168 [some (.ref 55), some (.ref 42), some (.int x2), some (.long (SJ 43 (gj_n x2))), none, some (.long (SJ 44 (gj_n x2))), none, some (.long (SJ 45 (gj_n x2))), none, some (.long (SJ 55 9)), none, some (.long (SJ 45 (gj_n x2))), none] [] SI26 SJ26 (QV Q)) ∧ (¬ r25 = 0 → gj_Do E om0 (gj_mt 22) [(.ref 55), (.int x2), (.int (i3 0)), (.int (i3 0))] SI26 SJ26 _)
                refine ⟨fun c33 => ?_, fun c33 => ?_⟩
                · refine gj_goq gj_clT ok_17 [2, 158, 168] ?_
                  show gj_Goes E om0 mt_17 2 [some (.ref 55), some (.ref 42), some (.int (x2 + (i3 1))), some (.long (SJ 43 (gj_n x2))), none, some (.long (SJ 44 (gj_n x2))), none, some (.long (SJ 45 (gj_n x2))), none, some (.long (SJ 55 9)), none, some (.long (SJ 45 (gj_n x2))), none] [] SI26 SJ26 (QV Q)
                  exact gj_fh (q32.1 c33) (And.intro (Or.inr rfl) (And.intro (Or.inr rfl) (And.intro (Or.inr rfl) (And.intro (Or.inl rfl) (And.intro (Or.inl rfl) (And.intro (Or.inl rfl) (And.intro (Or.inl rfl) (And.intro (Or.inl rfl) (And.intro (Or.inl rfl) (And.intro (Or.inl rfl) (And.intro (Or.inl rfl) (And.intro (Or.inl rfl) (And.intro (Or.inl rfl) trivial)))))))))))))
                · refine gj_Do.mono (q32.2 c33) (fun v_ SI28 SJ28 h_ => ?_)
                  obtain ⟨rfl, q34⟩ := h_
                  show gj_Goes E om0 mt_17 168 [some (.ref 55), some (.ref 42), some (.int x2), some (.long (SJ 43 (gj_n x2))), none, some (.long (SJ 44 (gj_n x2))), none, some (.long (SJ 45 (gj_n x2))), none, some (.long (SJ 55 9)), none, some (.long (SJ 45 (gj_n x2))), none] [] SI28 SJ28 (QV Q)
                  refine gj_goq gj_clT ok_17 [2, 158, 168] ?_
                  show gj_Goes E om0 mt_17 2 [some (.ref 55), some (.ref 42), some (.int (x2 + (i3 1))), some (.long (SJ 43 (gj_n x2))), none, some (.long (SJ 44 (gj_n x2))), none, some (.long (SJ 45 (gj_n x2))), none, some (.long (SJ 55 9)), none, some (.long (SJ 45 (gj_n x2))), none] [] SI28 SJ28 (QV Q)
                  exact gj_fh q34 (And.intro (Or.inr rfl) (And.intro (Or.inr rfl) (And.intro (Or.inr rfl) (And.intro (Or.inl rfl) (And.intro (Or.inl rfl) (And.intro (Or.inl rfl) (And.intro (Or.inl rfl) (And.intro (Or.inl rfl) (And.intro (Or.inl rfl) (And.intro (Or.inl rfl) (And.intro (Or.inl rfl) (And.intro (Or.inl rfl) (And.intro (Or.inl rfl) trivial)))))))))))))
              · refine gj_goq gj_clT ok_17 [2, 158, 168] ?_
                show gj_Do E om0 (gj_mt 21) [(.ref 55), (.int (i3 1)), (.long (SJ 55 9)), (.long (i6 0)), (.long (i6 0)), (.long (SJ 44 (gj_n x2)))] SI SJ _
                refine gj_Do.mono (((((((h.2 c1).2.2 (lgc_eq.mp c3)).2 (lgc_eq.mp c4)).1 (lgc_eq.mp c5)).2 (fun z_ => c6 (lgc_eq.mpr z_))).1 (lgc_eq.mp c30)).2 (fun z_ => c31 (lgc_eq.mpr z_))) (fun v_ SI30 SJ30 h_ => ?_)
                obtain ⟨r29, rfl, q35⟩ := h_
                show gj_Goes E om0 mt_17 158 [some (.ref 55), some (.ref 42), some (.int x2), some (.long (SJ 43 (gj_n x2))), none, some (.long (SJ 44 (gj_n x2))), none, some (.long (SJ 45 (gj_n x2))), none, some (.long (SJ 55 9)), none, some (.long (SJ 44 (gj_n x2))), none] [(.int r29)] SI30 SJ30 (QV Q)
                refine gj_goq gj_clT ok_17 [2, 158, 168] ?_
                show (r29 = 0 → gj_Goes E om0 mt_17 168 [some (.ref 55), some (.ref 42), some (.int x2), some (.long (SJ 43 (gj_n x2))), none, some (.long (SJ 44 (gj_n x2))), none, some (.long (SJ 45 (gj_n x2))), none, some (.long (SJ 55 9)), none, some (.long (SJ 44 (gj_n x2))), none] [] SI30 SJ30 (QV Q)) ∧ (¬ r29 = 0 → gj_Do E om0 (gj_mt 22) [(.ref 55), (.int x2), (.int (i3 0)), (.int (i3 0))] SI30 SJ30 _)
                refine ⟨fun c36 => ?_, fun c36 => ?_⟩
                · refine gj_goq gj_clT ok_17 [2, 158, 168] ?_
                  show gj_Goes E om0 mt_17 2 [some (.ref 55), some (.ref 42), some (.int (x2 + (i3 1))), some (.long (SJ 43 (gj_n x2))), none, some (.long (SJ 44 (gj_n x2))), none, some (.long (SJ 45 (gj_n x2))), none, some (.long (SJ 55 9)), none, some (.long (SJ 44 (gj_n x2))), none] [] SI30 SJ30 (QV Q)
                  exact gj_fh (q35.1 c36) (And.intro (Or.inr rfl) (And.intro (Or.inr rfl) (And.intro (Or.inr rfl) (And.intro (Or.inl rfl) (And.intro (Or.inl rfl) (And.intro (Or.inl rfl) (And.intro (Or.inl rfl) (And.intro (Or.inl rfl) (And.intro (Or.inl rfl) (And.intro (Or.inl rfl) (And.intro (Or.inl rfl) (And.intro (Or.inl rfl) (And.intro (Or.inl rfl) trivial)))))))))))))
                · refine gj_Do.mono (q35.2 c36) (fun v_ SI32 SJ32 h_ => ?_)
                  obtain ⟨rfl, q37⟩ := h_
                  show gj_Goes E om0 mt_17 168 [some (.ref 55), some (.ref 42), some (.int x2), some (.long (SJ 43 (gj_n x2))), none, some (.long (SJ 44 (gj_n x2))), none, some (.long (SJ 45 (gj_n x2))), none, some (.long (SJ 55 9)), none, some (.long (SJ 44 (gj_n x2))), none] [] SI32 SJ32 (QV Q)
                  refine gj_goq gj_clT ok_17 [2, 158, 168] ?_
                  show gj_Goes E om0 mt_17 2 [some (.ref 55), some (.ref 42), some (.int (x2 + (i3 1))), some (.long (SJ 43 (gj_n x2))), none, some (.long (SJ 44 (gj_n x2))), none, some (.long (SJ 45 (gj_n x2))), none, some (.long (SJ 55 9)), none, some (.long (SJ 44 (gj_n x2))), none] [] SI32 SJ32 (QV Q)
                  exact gj_fh q37 (And.intro (Or.inr rfl) (And.intro (Or.inr rfl) (And.intro (Or.inr rfl) (And.intro (Or.inl rfl) (And.intro (Or.inl rfl) (And.intro (Or.inl rfl) (And.intro (Or.inl rfl) (And.intro (Or.inl rfl) (And.intro (Or.inl rfl) (And.intro (Or.inl rfl) (And.intro (Or.inl rfl) (And.intro (Or.inl rfl) (And.intro (Or.inl rfl) trivial)))))))))))))
            · refine gj_goq gj_clT ok_17 [2, 158, 168] ?_
              show gj_Do E om0 (gj_mt 21) [(.ref 55), (.int (i3 1)), (.long (SJ 55 9)), (.long (i6 0)), (.long (i6 0)), (.long (SJ 43 (gj_n x2)))] SI SJ _
              refine gj_Do.mono ((((((h.2 c1).2.2 (lgc_eq.mp c3)).2 (lgc_eq.mp c4)).1 (lgc_eq.mp c5)).2 (fun z_ => c6 (lgc_eq.mpr z_))).2 (fun z_ => c30 (lgc_eq.mpr z_))) (fun v_ SI34 SJ34 h_ => ?_)
              obtain ⟨r33, rfl, q38⟩ := h_
              show gj_Goes E om0 mt_17 158 [some (.ref 55), some (.ref 42), some (.int x2), some (.long (SJ 43 (gj_n x2))), none, some (.long (SJ 44 (gj_n x2))), none, some (.long (SJ 45 (gj_n x2))), none, some (.long (SJ 55 9)), none, some (.long (SJ 43 (gj_n x2))), none] [(.int r33)] SI34 SJ34 (QV Q)
              refine gj_goq gj_clT ok_17 [2, 158, 168] ?_
              show (r33 = 0 → gj_Goes E om0 mt_17 168 [some (.ref 55), some (.ref 42), some (.int x2), some (.long (SJ 43 (gj_n x2))), none, some (.long (SJ 44 (gj_n x2))), none, some (.long (SJ 45 (gj_n x2))), none, some (.long (SJ 55 9)), none, some (.long (SJ 43 (gj_n x2))), none] [] SI34 SJ34 (QV Q)) ∧ (¬ r33 = 0 → gj_Do E om0 (gj_mt 22) [(.ref 55), (.int x2), (.int (i3 0)), (.int (i3 0))] SI34 SJ34 _)
              refine ⟨fun c39 => ?_, fun c39 => ?_⟩
              · refine gj_goq gj_clT ok_17 [2, 158, 168] ?_
                show gj_Goes E om0 mt_17 2 [some (.ref 55), some (.ref 42), some (.int (x2 + (i3 1))), some (.long (SJ 43 (gj_n x2))), none, some (.long (SJ 44 (gj_n x2))), none, some (.long (SJ 45 (gj_n x2))), none, some (.long (SJ 55 9)), none, some (.long (SJ 43 (gj_n x2))), none] [] SI34 SJ34 (QV Q)
                exact gj_fh (q38.1 c39) (And.intro (Or.inr rfl) (And.intro (Or.inr rfl) (And.intro (Or.inr rfl) (And.intro (Or.inl rfl) (And.intro (Or.inl rfl) (And.intro (Or.inl rfl) (And.intro (Or.inl rfl) (And.intro (Or.inl rfl) (And.intro (Or.inl rfl) (And.intro (Or.inl rfl) (And.intro (Or.inl rfl) (And.intro (Or.inl rfl) (And.intro (Or.inl rfl) trivial)))))))))))))
              · refine gj_Do.mono (q38.2 c39) (fun v_ SI36 SJ36 h_ => ?_)
                obtain ⟨rfl, q40⟩ := h_
                show gj_Goes E om0 mt_17 168 [some (.ref 55), some (.ref 42), some (.int x2), some (.long (SJ 43 (gj_n x2))), none, some (.long (SJ 44 (gj_n x2))), none, some (.long (SJ 45 (gj_n x2))), none, some (.long (SJ 55 9)), none, some (.long (SJ 43 (gj_n x2))), none] [] SI36 SJ36 (QV Q)
                refine gj_goq gj_clT ok_17 [2, 158, 168] ?_
                show gj_Goes E om0 mt_17 2 [some (.ref 55), some (.ref 42), some (.int (x2 + (i3 1))), some (.long (SJ 43 (gj_n x2))), none, some (.long (SJ 44 (gj_n x2))), none, some (.long (SJ 45 (gj_n x2))), none, some (.long (SJ 55 9)), none, some (.long (SJ 43 (gj_n x2))), none] [] SI36 SJ36 (QV Q)
                exact gj_fh q40 (And.intro (Or.inr rfl) (And.intro (Or.inr rfl) (And.intro (Or.inr rfl) (And.intro (Or.inl rfl) (And.intro (Or.inl rfl) (And.intro (Or.inl rfl) (And.intro (Or.inl rfl) (And.intro (Or.inl rfl) (And.intro (Or.inl rfl) (And.intro (Or.inl rfl) (And.intro (Or.inl rfl) (And.intro (Or.inl rfl) (And.intro (Or.inl rfl) trivial)))))))))))))
        · refine gj_goq gj_clT ok_17 [2, 158, 168] ?_
          show gj_Goes E om0 mt_17 2 [some (.ref 55), some (.ref 42), some (.int (x2 + (i3 1))), some (.long (SJ 43 (gj_n x2))), none, some (.long (SJ 44 (gj_n x2))), none, some (.long (SJ 45 (gj_n x2))), none, none, none, none, none] [] SI SJ (QV Q)
          exact gj_fh ((((h.2 c1).2.2 (lgc_eq.mp c3)).2 (lgc_eq.mp c4)).2 (fun z_ => c5 (lgc_eq.mpr z_))) (And.intro (Or.inr rfl) (And.intro (Or.inr rfl) (And.intro (Or.inr rfl) (And.intro (Or.inl rfl) (And.intro (Or.inl rfl) (And.intro (Or.inl rfl) (And.intro (Or.inl rfl) (And.intro (Or.inl rfl) (And.intro (Or.inl rfl) (And.intro (Or.inl rfl) (And.intro (Or.inl rfl) (And.intro (Or.inl rfl) (And.intro (Or.inl rfl) trivial)))))))))))))
set_option maxRecDepth 20000 in
/-- GraspJudge$Hold.seekTwos -/
theorem st_18 {E : gj_E} {Q : gj_I → gj_J → Prop} (SI : gj_I) (SJ : gj_J) (h : GoV E mt_18 2 [some (.ref 55), some (.ref 42), some (.int (i3 0)), none, none] SI SJ Q) : DoV E 18 [(.ref 55), (.ref 42)] SI SJ Q := by
  refine gj_start (M := mt_18) ok_18 (Nat.le_of_ble_eq_true rfl) ?_
  refine gj_goq gj_clT ok_18 [2, 14, 27, 92, 102, 112] ?_
  show gj_Goes E om0 mt_18 2 [some (.ref 55), some (.ref 42), some (.int (i3 0)), none, none] [] SI SJ (QV Q)
  exact h
set_option maxRecDepth 20000 in
theorem lp_18_2 {E : gj_E} {Q : gj_I → gj_J → Prop} (x2 : Int32) (SI : gj_I) (SJ : gj_J) (h : ((SI 42 9) ≤ x2 → Q SI SJ) ∧ (¬ (SI 42 9) ≤ x2 → GoV E mt_18 14 [some (.ref 55), some (.ref 42), some (.int x2), some (.int (x2 + (i3 1))), none] SI SJ Q)) : GoV E mt_18 2 [some (.ref 55), some (.ref 42), some (.int x2), none, none] SI SJ Q := by
  refine gj_goq gj_clT ok_18 [2, 14, 27, 92, 102, 112] ?_
  show ((SI 42 9) ≤ x2 → gj_Goes E om0 mt_18 124 [some (.ref 55), some (.ref 42), some (.int x2), none, none] [] SI SJ (QV Q)) ∧ (¬ (SI 42 9) ≤ x2 → gj_Goes E om0 mt_18 14 [some (.ref 55), some (.ref 42), some (.int x2), some (.int (x2 + (i3 1))), none] [] SI SJ (QV Q))
  refine ⟨fun c1 => ?_, fun c1 => ?_⟩
  · refine gj_goq gj_clT ok_18 [2, 14, 27, 92, 102, 112] ?_
    show QV Q none SI SJ
    exact ⟨rfl, (h.1 c1)⟩
  · exact (h.2 c1)
set_option maxRecDepth 20000 in
theorem lp_18_14 {E : gj_E} {Q : gj_I → gj_J → Prop} (x2 : Int32) (x3 : Int32) (SI : gj_I) (SJ : gj_J) (h : ((SI 42 9) ≤ x3 → GoV E mt_18 2 [some (.ref 55), some (.ref 42), some (.int (x2 + (i3 1))), none, none] SI SJ Q) ∧ (¬ (SI 42 9) ≤ x3 → DoI E 2 [(.int x2), (.int x3)] SI SJ (fun r1 SI2 SJ2 => vp_in r1 91 ∧ ((¬ ((gj_w2 SJ2 60 (gj_n r1) ((((SJ2 55 9) * (SJ2 47 (gj_n r1))) + ((SJ2 55 10) * (SJ2 48 (gj_n r1)))) + ((SJ2 55 11) * (SJ2 49 (gj_n r1))))) 60 (gj_n r1)) = (i6 0) → GoV E mt_18 14 [some (.ref 55), some (.ref 42), some (.int x2), some (.int (x3 + (i3 1))), none] SI2 (gj_w2 SJ2 60 (gj_n r1) ((((SJ2 55 9) * (SJ2 47 (gj_n r1))) + ((SJ2 55 10) * (SJ2 48 (gj_n r1)))) + ((SJ2 55 11) * (SJ2 49 (gj_n r1))))) Q) ∧ (((gj_w2 SJ2 60 (gj_n r1) ((((SJ2 55 9) * (SJ2 47 (gj_n r1))) + ((SJ2 55 10) * (SJ2 48 (gj_n r1)))) + ((SJ2 55 11) * (SJ2 49 (gj_n r1))))) 60 (gj_n r1)) = (i6 0) → DoI E 8 [(.ref 42), (.int r1)] SI2 (gj_w2 SJ2 60 (gj_n r1) ((((SJ2 55 9) * (SJ2 47 (gj_n r1))) + ((SJ2 55 10) * (SJ2 48 (gj_n r1)))) + ((SJ2 55 11) * (SJ2 49 (gj_n r1))))) (fun r3 SI4 SJ4 => (r3 = 0 → GoV E mt_18 14 [some (.ref 55), some (.ref 42), some (.int x2), some (.int (x3 + (i3 1))), none] SI4 SJ4 Q) ∧ (¬ r3 = 0 → DoI E 19 [(.ref 55), (.ref 42), (.int x2), (.int x3)] SI4 SJ4 (fun r5 SI6 SJ6 => (r5 = 0 → GoV E mt_18 14 [some (.ref 55), some (.ref 42), some (.int x2), some (.int (x3 + (i3 1))), none] SI6 SJ6 Q) ∧ (¬ r5 = 0 → DoV E 22 [(.ref 55), (.int x2), (.int x3), (.int (i3 0))] SI6 SJ6 (fun SI8 SJ8 => GoV E mt_18 14 [some (.ref 55), some (.ref 42), some (.int x2), some (.int (x3 + (i3 1))), none] SI8 SJ8 Q)))))))))) : GoV E mt_18 14 [some (.ref 55), some (.ref 42), some (.int x2), some (.int x3), none] SI SJ Q := by
  refine gj_goq gj_clT ok_18 [2, 14, 27, 92, 102, 112] ?_
  show ((SI 42 9) ≤ x3 → gj_Goes E om0 mt_18 118 [some (.ref 55), some (.ref 42), some (.int x2), some (.int x3), none] [] SI SJ (QV Q)) ∧ (¬ (SI 42 9) ≤ x3 → gj_Do E om0 (gj_mt 2) [(.int x2), (.int x3)] SI SJ _)
  refine ⟨fun c1 => ?_, fun c1 => ?_⟩
  · refine gj_goq gj_clT ok_18 [2, 14, 27, 92, 102, 112] ?_
    show gj_Goes E om0 mt_18 2 [some (.ref 55), some (.ref 42), some (.int (x2 + (i3 1))), some (.int x3), none] [] SI SJ (QV Q)
    exact gj_fh (h.1 c1) (And.intro (Or.inr rfl) (And.intro (Or.inr rfl) (And.intro (Or.inr rfl) (And.intro (Or.inl rfl) (And.intro (Or.inl rfl) trivial)))))
  · refine gj_Do.mono (h.2 c1) (fun v_ SI2 SJ2 h_ => ?_)
    obtain ⟨r1, rfl, q2⟩ := h_
    show gj_Goes E om0 mt_18 27 [some (.ref 55), some (.ref 42), some (.int x2), some (.int x3), none] [(.int r1)] SI2 SJ2 (QV Q)
    refine gj_goq gj_clT ok_18 [2, 14, 27, 92, 102, 112] ?_
    show vp_in r1 91 ∧ (vp_in r1 91 ∧ (vp_in r1 91 ∧ (vp_in r1 91 ∧ (vp_in r1 91 ∧ ((¬ (lg_cmp ((gj_w2 SJ2 60 (gj_n r1) ((((SJ2 55 9) * (SJ2 47 (gj_n r1))) + ((SJ2 55 10) * (SJ2 48 (gj_n r1)))) + ((SJ2 55 11) * (SJ2 49 (gj_n r1))))) 60 (gj_n r1)) (i6 0)) = 0 → gj_Goes E om0 mt_18 112 [some (.ref 55), some (.ref 42), some (.int x2), some (.int x3), some (.int r1)] [] SI2 (gj_w2 SJ2 60 (gj_n r1) ((((SJ2 55 9) * (SJ2 47 (gj_n r1))) + ((SJ2 55 10) * (SJ2 48 (gj_n r1)))) + ((SJ2 55 11) * (SJ2 49 (gj_n r1))))) (QV Q)) ∧ ((lg_cmp ((gj_w2 SJ2 60 (gj_n r1) ((((SJ2 55 9) * (SJ2 47 (gj_n r1))) + ((SJ2 55 10) * (SJ2 48 (gj_n r1)))) + ((SJ2 55 11) * (SJ2 49 (gj_n r1))))) 60 (gj_n r1)) (i6 0)) = 0 → gj_Do E om0 (gj_mt 8) [(.ref 42), (.int r1)] SI2 (gj_w2 SJ2 60 (gj_n r1) ((((SJ2 55 9) * (SJ2 47 (gj_n r1))) + ((SJ2 55 10) * (SJ2 48 (gj_n r1)))) + ((SJ2 55 11) * (SJ2 49 (gj_n r1))))) _))))))
    have k3 := q2.1
    refine ⟨k3, ?_⟩
    refine ⟨k3, ?_⟩
    refine ⟨k3, ?_⟩
    refine ⟨k3, ?_⟩
    refine ⟨k3, ?_⟩
    refine ⟨fun c4 => ?_, fun c4 => ?_⟩
    · refine gj_goq gj_clT ok_18 [2, 14, 27, 92, 102, 112] ?_
      show gj_Goes E om0 mt_18 14 [some (.ref 55), some (.ref 42), some (.int x2), some (.int (x3 + (i3 1))), some (.int r1)] [] SI2 (gj_w2 SJ2 60 (gj_n r1) ((((SJ2 55 9) * (SJ2 47 (gj_n r1))) + ((SJ2 55 10) * (SJ2 48 (gj_n r1)))) + ((SJ2 55 11) * (SJ2 49 (gj_n r1))))) (QV Q)
      exact gj_fh (q2.2.1 (fun z_ => c4 (lgc_eq.mpr z_))) (And.intro (Or.inr rfl) (And.intro (Or.inr rfl) (And.intro (Or.inr rfl) (And.intro (Or.inr rfl) (And.intro (Or.inl rfl) trivial)))))
    · refine gj_Do.mono (q2.2.2 (lgc_eq.mp c4)) (fun v_ SI4 SJ4 h_ => ?_)
      obtain ⟨r3, rfl, q5⟩ := h_
      show gj_Goes E om0 mt_18 92 [some (.ref 55), some (.ref 42), some (.int x2), some (.int x3), some (.int r1)] [(.int r3)] SI4 SJ4 (QV Q)
      refine gj_goq gj_clT ok_18 [2, 14, 27, 92, 102, 112] ?_
      show (r3 = 0 → gj_Goes E om0 mt_18 112 [some (.ref 55), some (.ref 42), some (.int x2), some (.int x3), some (.int r1)] [] SI4 SJ4 (QV Q)) ∧ (¬ r3 = 0 → gj_Do E om0 (gj_mt 19) [(.ref 55), (.ref 42), (.int x2), (.int x3)] SI4 SJ4 _)
      refine ⟨fun c6 => ?_, fun c6 => ?_⟩
      · refine gj_goq gj_clT ok_18 [2, 14, 27, 92, 102, 112] ?_
        show gj_Goes E om0 mt_18 14 [some (.ref 55), some (.ref 42), some (.int x2), some (.int (x3 + (i3 1))), some (.int r1)] [] SI4 SJ4 (QV Q)
        exact gj_fh (q5.1 c6) (And.intro (Or.inr rfl) (And.intro (Or.inr rfl) (And.intro (Or.inr rfl) (And.intro (Or.inr rfl) (And.intro (Or.inl rfl) trivial)))))
      · refine gj_Do.mono (q5.2 c6) (fun v_ SI6 SJ6 h_ => ?_)
        obtain ⟨r5, rfl, q7⟩ := h_
        show gj_Goes E om0 mt_18 102 [some (.ref 55), some (.ref 42), some (.int x2), some (.int x3), some (.int r1)] [(.int r5)] SI6 SJ6 (QV Q)
        refine gj_goq gj_clT ok_18 [2, 14, 27, 92, 102, 112] ?_
        show (r5 = 0 → gj_Goes E om0 mt_18 112 [some (.ref 55), some (.ref 42), some (.int x2), some (.int x3), some (.int r1)] [] SI6 SJ6 (QV Q)) ∧ (¬ r5 = 0 → gj_Do E om0 (gj_mt 22) [(.ref 55), (.int x2), (.int x3), (.int (i3 0))] SI6 SJ6 _)
        refine ⟨fun c8 => ?_, fun c8 => ?_⟩
        · refine gj_goq gj_clT ok_18 [2, 14, 27, 92, 102, 112] ?_
          show gj_Goes E om0 mt_18 14 [some (.ref 55), some (.ref 42), some (.int x2), some (.int (x3 + (i3 1))), some (.int r1)] [] SI6 SJ6 (QV Q)
          exact gj_fh (q7.1 c8) (And.intro (Or.inr rfl) (And.intro (Or.inr rfl) (And.intro (Or.inr rfl) (And.intro (Or.inr rfl) (And.intro (Or.inl rfl) trivial)))))
        · refine gj_Do.mono (q7.2 c8) (fun v_ SI8 SJ8 h_ => ?_)
          obtain ⟨rfl, q9⟩ := h_
          show gj_Goes E om0 mt_18 112 [some (.ref 55), some (.ref 42), some (.int x2), some (.int x3), some (.int r1)] [] SI8 SJ8 (QV Q)
          refine gj_goq gj_clT ok_18 [2, 14, 27, 92, 102, 112] ?_
          show gj_Goes E om0 mt_18 14 [some (.ref 55), some (.ref 42), some (.int x2), some (.int (x3 + (i3 1))), some (.int r1)] [] SI8 SJ8 (QV Q)
          exact gj_fh q9 (And.intro (Or.inr rfl) (And.intro (Or.inr rfl) (And.intro (Or.inr rfl) (And.intro (Or.inr rfl) (And.intro (Or.inl rfl) trivial)))))
set_option maxRecDepth 20000 in
/-- GraspJudge$Hold.improvesByTwo -/
theorem st_19 {E : gj_E} {Q : Int32 → gj_I → gj_J → Prop} (a1 : Int32) (a2 : Int32) (SI : gj_I) (SJ : gj_J) (h : DoI E 2 [(.int a1), (.int a2)] SI SJ (fun r1 SI2 SJ2 => vp_in r1 91 ∧ (((SJ2 49 (gj_n r1)) = (i6 0) → ((SJ2 47 (gj_n r1)) = (i6 0) → vp_in a2 14 ∧ (vp_in a1 14 ∧ (DoI E 21 [(.ref 55), (.int (i3 2)), (.long (((SJ2 55 11) * (SJ2 43 (gj_n a2))) - ((SJ2 55 9) * (SJ2 45 (gj_n a2))))), (.long (((SJ2 45 (gj_n a1)) * (SJ2 55 9)) - ((SJ2 43 (gj_n a1)) * (SJ2 55 11)))), (.long (i6 0)), (.long (SJ2 48 (gj_n r1)))] SI2 SJ2 (fun r3 SI4 SJ4 => (r3 = 0 ∨ r3 = 1) ∧ (Q r3 SI4 SJ4))))) ∧ (¬ (SJ2 47 (gj_n r1)) = (i6 0) → vp_in a2 14 ∧ (vp_in a1 14 ∧ (DoI E 21 [(.ref 55), (.int (i3 2)), (.long (((SJ2 55 10) * (SJ2 45 (gj_n a2))) - ((SJ2 55 11) * (SJ2 44 (gj_n a2))))), (.long (((SJ2 44 (gj_n a1)) * (SJ2 55 11)) - ((SJ2 45 (gj_n a1)) * (SJ2 55 10)))), (.long (i6 0)), (.long (SJ2 47 (gj_n r1)))] SI2 SJ2 (fun r5 SI6 SJ6 => (r5 = 0 ∨ r5 = 1) ∧ (Q r5 SI6 SJ6)))))) ∧ (¬ (SJ2 49 (gj_n r1)) = (i6 0) → vp_in a2 14 ∧ (vp_in a1 14 ∧ (DoI E 21 [(.ref 55), (.int (i3 2)), (.long (((SJ2 55 9) * (SJ2 44 (gj_n a2))) - ((SJ2 55 10) * (SJ2 43 (gj_n a2))))), (.long (((SJ2 43 (gj_n a1)) * (SJ2 55 10)) - ((SJ2 44 (gj_n a1)) * (SJ2 55 9)))), (.long (i6 0)), (.long (SJ2 49 (gj_n r1)))] SI2 SJ2 (fun r7 SI8 SJ8 => (r7 = 0 ∨ r7 = 1) ∧ (Q r7 SI8 SJ8)))))))) : DoI E 19 [(.ref 55), (.ref 42), (.int a1), (.int a2)] SI SJ Q := by
  refine gj_start (M := mt_19) ok_19 (Nat.le_of_ble_eq_true rfl) ?_
  refine gj_goq gj_clT ok_19 [5, 88, 152, 204] ?_
  show gj_Do E om0 (gj_mt 2) [(.int a1), (.int a2)] SI SJ _
  refine gj_Do.mono h (fun v_ SI2 SJ2 h_ => ?_)
  obtain ⟨r1, rfl, q1⟩ := h_
  show gj_Goes E om0 mt_19 5 [some (.ref 55), some (.ref 42), some (.int a1), some (.int a2), none, none, none, none] [(.int r1)] SI2 SJ2 (QI Q)
  refine gj_goq gj_clT ok_19 [5, 88, 152, 204] ?_
  show vp_in r1 91 ∧ (((lg_cmp (SJ2 49 (gj_n r1)) (i6 0)) = 0 → gj_Goes E om0 mt_19 89 [some (.ref 55), some (.ref 42), some (.int a1), some (.int a2), some (.int r1), some (.ref 43), some (.ref 44), some (.ref 45)] [] SI2 SJ2 (QI Q)) ∧ (¬ (lg_cmp (SJ2 49 (gj_n r1)) (i6 0)) = 0 → vp_in a2 14 ∧ (vp_in a2 14 ∧ (vp_in a1 14 ∧ (vp_in a1 14 ∧ (vp_in r1 91 ∧ (gj_Do E om0 (gj_mt 21) [(.ref 55), (.int (i3 2)), (.long (((SJ2 55 9) * (SJ2 44 (gj_n a2))) - ((SJ2 55 10) * (SJ2 43 (gj_n a2))))), (.long (((SJ2 43 (gj_n a1)) * (SJ2 55 10)) - ((SJ2 44 (gj_n a1)) * (SJ2 55 9)))), (.long (i6 0)), (.long (SJ2 49 (gj_n r1)))] SI2 SJ2 _)))))))
  have k2 := q1.1
  refine ⟨k2, ?_⟩
  refine ⟨fun c3 => ?_, fun c3 => ?_⟩
  · refine gj_goq gj_clT ok_19 [5, 88, 152, 204] ?_
    show vp_in r1 91 ∧ (((lg_cmp (SJ2 47 (gj_n r1)) (i6 0)) = 0 → gj_Goes E om0 mt_19 153 [some (.ref 55), some (.ref 42), some (.int a1), some (.int a2), some (.int r1), some (.ref 43), some (.ref 44), some (.ref 45)] [] SI2 SJ2 (QI Q)) ∧ (¬ (lg_cmp (SJ2 47 (gj_n r1)) (i6 0)) = 0 → vp_in a2 14 ∧ (vp_in a2 14 ∧ (vp_in a1 14 ∧ (vp_in a1 14 ∧ (vp_in r1 91 ∧ (gj_Do E om0 (gj_mt 21) [(.ref 55), (.int (i3 2)), (.long (((SJ2 55 10) * (SJ2 45 (gj_n a2))) - ((SJ2 55 11) * (SJ2 44 (gj_n a2))))), (.long (((SJ2 44 (gj_n a1)) * (SJ2 55 11)) - ((SJ2 45 (gj_n a1)) * (SJ2 55 10)))), (.long (i6 0)), (.long (SJ2 47 (gj_n r1)))] SI2 SJ2 _)))))))
    refine ⟨k2, ?_⟩
    refine ⟨fun c4 => ?_, fun c4 => ?_⟩
    · refine gj_goq gj_clT ok_19 [5, 88, 152, 204] ?_
      show vp_in a2 14 ∧ (vp_in a2 14 ∧ (vp_in a1 14 ∧ (vp_in a1 14 ∧ (vp_in r1 91 ∧ (gj_Do E om0 (gj_mt 21) [(.ref 55), (.int (i3 2)), (.long (((SJ2 55 11) * (SJ2 43 (gj_n a2))) - ((SJ2 55 9) * (SJ2 45 (gj_n a2))))), (.long (((SJ2 45 (gj_n a1)) * (SJ2 55 9)) - ((SJ2 43 (gj_n a1)) * (SJ2 55 11)))), (.long (i6 0)), (.long (SJ2 48 (gj_n r1)))] SI2 SJ2 _)))))
      have k5 := ((q1.2.1 (lgc_eq.mp c3)).1 (lgc_eq.mp c4)).1
      refine ⟨k5, ?_⟩
      refine ⟨k5, ?_⟩
      have k6 := ((q1.2.1 (lgc_eq.mp c3)).1 (lgc_eq.mp c4)).2.1
      refine ⟨k6, ?_⟩
      refine ⟨k6, ?_⟩
      refine ⟨k2, ?_⟩
      refine gj_Do.mono ((q1.2.1 (lgc_eq.mp c3)).1 (lgc_eq.mp c4)).2.2 (fun v_ SI4 SJ4 h_ => ?_)
      obtain ⟨r3, rfl, q7⟩ := h_
      show gj_Goes E om0 mt_19 204 [some (.ref 55), some (.ref 42), some (.int a1), some (.int a2), some (.int r1), some (.ref 43), some (.ref 44), some (.ref 45)] [(.int r3)] SI4 SJ4 (QI Q)
      refine gj_goq gj_clT ok_19 [5, 88, 152, 204] ?_
      show (r3 = 0 ∨ r3 = 1) ∧ (QI Q (some (.int r3)) SI4 SJ4)
      have k8 := q7.1
      refine ⟨k8, ?_⟩
      exact ⟨_, rfl, q7.2⟩
    · have k9 := ((q1.2.1 (lgc_eq.mp c3)).2 (fun z_ => c4 (lgc_eq.mpr z_))).1
      refine ⟨k9, ?_⟩
      refine ⟨k9, ?_⟩
      have k10 := ((q1.2.1 (lgc_eq.mp c3)).2 (fun z_ => c4 (lgc_eq.mpr z_))).2.1
      refine ⟨k10, ?_⟩
      refine ⟨k10, ?_⟩
      refine ⟨k2, ?_⟩
      refine gj_Do.mono ((q1.2.1 (lgc_eq.mp c3)).2 (fun z_ => c4 (lgc_eq.mpr z_))).2.2 (fun v_ SI6 SJ6 h_ => ?_)
      obtain ⟨r5, rfl, q11⟩ := h_
      show gj_Goes E om0 mt_19 152 [some (.ref 55), some (.ref 42), some (.int a1), some (.int a2), some (.int r1), some (.ref 43), some (.ref 44), some (.ref 45)] [(.int r5)] SI6 SJ6 (QI Q)
      refine gj_goq gj_clT ok_19 [5, 88, 152, 204] ?_
      show (r5 = 0 ∨ r5 = 1) ∧ (QI Q (some (.int r5)) SI6 SJ6)
      have k12 := q11.1
      refine ⟨k12, ?_⟩
      exact ⟨_, rfl, q11.2⟩
  · have k13 := (q1.2.2 (fun z_ => c3 (lgc_eq.mpr z_))).1
    refine ⟨k13, ?_⟩
    refine ⟨k13, ?_⟩
    have k14 := (q1.2.2 (fun z_ => c3 (lgc_eq.mpr z_))).2.1
    refine ⟨k14, ?_⟩
    refine ⟨k14, ?_⟩
    refine ⟨k2, ?_⟩
    refine gj_Do.mono (q1.2.2 (fun z_ => c3 (lgc_eq.mpr z_))).2.2 (fun v_ SI8 SJ8 h_ => ?_)
    obtain ⟨r7, rfl, q15⟩ := h_
    show gj_Goes E om0 mt_19 88 [some (.ref 55), some (.ref 42), some (.int a1), some (.int a2), some (.int r1), some (.ref 43), some (.ref 44), some (.ref 45)] [(.int r7)] SI8 SJ8 (QI Q)
    refine gj_goq gj_clT ok_19 [5, 88, 152, 204] ?_
    show (r7 = 0 ∨ r7 = 1) ∧ (QI Q (some (.int r7)) SI8 SJ8)
    have k16 := q15.1
    refine ⟨k16, ?_⟩
    exact ⟨_, rfl, q15.2⟩
set_option maxRecDepth 20000 in
/-- GraspJudge$Hold.seekThrees -/
theorem st_20 {E : gj_E} {Q : gj_I → gj_J → Prop} (SI : gj_I) (SJ : gj_J) (h : GoV E mt_20 2 [some (.ref 55), some (.ref 42), some (.int (i3 0)), none, none, none, none, none, none, none] SI SJ Q) : DoV E 20 [(.ref 55), (.ref 42)] SI SJ Q := by
  refine gj_start (M := mt_20) ok_20 (Nat.le_of_ble_eq_true rfl) ?_
  refine gj_goq gj_clT ok_20 [2, 14, 31, 49, 64, 76, 100, 103, 114] ?_
  show gj_Goes E om0 mt_20 2 [some (.ref 55), some (.ref 42), some (.int (i3 0)), none, none, none, none, none, none, none] [] SI SJ (QV Q)
  exact h
set_option maxRecDepth 20000 in
theorem lp_20_2 {E : gj_E} {Q : gj_I → gj_J → Prop} (x2 : Int32) (SI : gj_I) (SJ : gj_J) (h : ((SI 42 9) ≤ x2 → Q SI SJ) ∧ (¬ (SI 42 9) ≤ x2 → GoV E mt_20 14 [some (.ref 55), some (.ref 42), some (.int x2), some (.int (x2 + (i3 1))), none, none, none, none, none, none] SI SJ Q)) : GoV E mt_20 2 [some (.ref 55), some (.ref 42), some (.int x2), none, none, none, none, none, none, none] SI SJ Q := by
  refine gj_goq gj_clT ok_20 [2, 14, 31, 49, 64, 76, 100, 103, 114] ?_
  show ((SI 42 9) ≤ x2 → gj_Goes E om0 mt_20 132 [some (.ref 55), some (.ref 42), some (.int x2), none, none, none, none, none, none, none] [] SI SJ (QV Q)) ∧ (¬ (SI 42 9) ≤ x2 → gj_Goes E om0 mt_20 14 [some (.ref 55), some (.ref 42), some (.int x2), some (.int (x2 + (i3 1))), none, none, none, none, none, none] [] SI SJ (QV Q))
  refine ⟨fun c1 => ?_, fun c1 => ?_⟩
  · refine gj_goq gj_clT ok_20 [2, 14, 31, 49, 64, 76, 100, 103, 114] ?_
    show QV Q none SI SJ
    exact ⟨rfl, (h.1 c1)⟩
  · exact (h.2 c1)
set_option maxRecDepth 20000 in
theorem lp_20_14 {E : gj_E} {Q : gj_I → gj_J → Prop} (x2 : Int32) (x3 : Int32) (SI : gj_I) (SJ : gj_J) (h : ((SI 42 9) ≤ x3 → GoV E mt_20 2 [some (.ref 55), some (.ref 42), some (.int (x2 + (i3 1))), none, none, none, none, none, none, none] SI SJ Q) ∧ (¬ (SI 42 9) ≤ x3 → DoI E 2 [(.int x2), (.int x3)] SI SJ (fun r1 SI2 SJ2 => vp_in r1 91 ∧ ((¬ (SJ2 60 (gj_n r1)) = (i6 0) → GoV E mt_20 49 [some (.ref 55), some (.ref 42), some (.int x2), some (.int x3), some (.long (SJ2 60 (gj_n r1))), none, some (.int (x3 + (i3 1))), none, none, none] SI2 SJ2 Q) ∧ ((SJ2 60 (gj_n r1)) = (i6 0) → GoV E mt_20 14 [some (.ref 55), some (.ref 42), some (.int x2), some (.int (x3 + (i3 1))), none, none, none, none, none, none] SI2 SJ2 Q))))) : GoV E mt_20 14 [some (.ref 55), some (.ref 42), some (.int x2), some (.int x3), none, none, none, none, none, none] SI SJ Q := by
  refine gj_goq gj_clT ok_20 [2, 14, 31, 49, 64, 76, 100, 103, 114] ?_
  show ((SI 42 9) ≤ x3 → gj_Goes E om0 mt_20 126 [some (.ref 55), some (.ref 42), some (.int x2), some (.int x3), none, none, none, none, none, none] [] SI SJ (QV Q)) ∧ (¬ (SI 42 9) ≤ x3 → gj_Do E om0 (gj_mt 2) [(.int x2), (.int x3)] SI SJ _)
  refine ⟨fun c1 => ?_, fun c1 => ?_⟩
  · refine gj_goq gj_clT ok_20 [2, 14, 31, 49, 64, 76, 100, 103, 114] ?_
    show gj_Goes E om0 mt_20 2 [some (.ref 55), some (.ref 42), some (.int (x2 + (i3 1))), some (.int x3), none, none, none, none, none, none] [] SI SJ (QV Q)
    exact gj_fh (h.1 c1) (And.intro (Or.inr rfl) (And.intro (Or.inr rfl) (And.intro (Or.inr rfl) (And.intro (Or.inl rfl) (And.intro (Or.inl rfl) (And.intro (Or.inl rfl) (And.intro (Or.inl rfl) (And.intro (Or.inl rfl) (And.intro (Or.inl rfl) (And.intro (Or.inl rfl) trivial))))))))))
  · refine gj_Do.mono (h.2 c1) (fun v_ SI2 SJ2 h_ => ?_)
    obtain ⟨r1, rfl, q2⟩ := h_
    show gj_Goes E om0 mt_20 31 [some (.ref 55), some (.ref 42), some (.int x2), some (.int x3), none, none, none, none, none, none] [(.int r1), (.ref 60)] SI2 SJ2 (QV Q)
    refine gj_goq gj_clT ok_20 [2, 14, 31, 49, 64, 76, 100, 103, 114] ?_
    show vp_in r1 91 ∧ ((¬ (lg_cmp (SJ2 60 (gj_n r1)) (i6 0)) = 0 → gj_Goes E om0 mt_20 44 [some (.ref 55), some (.ref 42), some (.int x2), some (.int x3), some (.long (SJ2 60 (gj_n r1))), none, none, none, none, none] [] SI2 SJ2 (QV Q)) ∧ ((lg_cmp (SJ2 60 (gj_n r1)) (i6 0)) = 0 → gj_Goes E om0 mt_20 120 [some (.ref 55), some (.ref 42), some (.int x2), some (.int x3), some (.long (SJ2 60 (gj_n r1))), none, none, none, none, none] [] SI2 SJ2 (QV Q)))
    have k3 := q2.1
    refine ⟨k3, ?_⟩
    refine ⟨fun c4 => ?_, fun c4 => ?_⟩
    · refine gj_goq gj_clT ok_20 [2, 14, 31, 49, 64, 76, 100, 103, 114] ?_
      show gj_Goes E om0 mt_20 49 [some (.ref 55), some (.ref 42), some (.int x2), some (.int x3), some (.long (SJ2 60 (gj_n r1))), none, some (.int (x3 + (i3 1))), none, none, none] [] SI2 SJ2 (QV Q)
      exact (q2.2.1 (fun z_ => c4 (lgc_eq.mpr z_)))
    · refine gj_goq gj_clT ok_20 [2, 14, 31, 49, 64, 76, 100, 103, 114] ?_
      show gj_Goes E om0 mt_20 14 [some (.ref 55), some (.ref 42), some (.int x2), some (.int (x3 + (i3 1))), some (.long (SJ2 60 (gj_n r1))), none, none, none, none, none] [] SI2 SJ2 (QV Q)
      exact gj_fh (q2.2.2 (lgc_eq.mp c4)) (And.intro (Or.inr rfl) (And.intro (Or.inr rfl) (And.intro (Or.inr rfl) (And.intro (Or.inr rfl) (And.intro (Or.inl rfl) (And.intro (Or.inl rfl) (And.intro (Or.inl rfl) (And.intro (Or.inl rfl) (And.intro (Or.inl rfl) (And.intro (Or.inl rfl) trivial))))))))))
set_option maxRecDepth 20000 in
theorem lp_20_49 {E : gj_E} {Q : gj_I → gj_J → Prop} (x2 : Int32) (x3 : Int32) (x4 : Int64) (x6 : Int32) (SI : gj_I) (SJ : gj_J) (h : ((SI 42 9) ≤ x6 → GoV E mt_20 14 [some (.ref 55), some (.ref 42), some (.int x2), some (.int (x3 + (i3 1))), none, none, none, none, none, none] SI SJ Q) ∧ (¬ (SI 42 9) ≤ x6 → DoI E 2 [(.int x3), (.int x6)] SI SJ (fun r1 SI2 SJ2 => DoI E 2 [(.int x2), (.int x6)] SI2 SJ2 (fun r3 SI4 SJ4 => vp_in r3 91 ∧ (vp_in r1 91 ∧ (DoL E 7 [(.ref 42), (.int x2), (.int r1)] SI4 SJ4 (fun r5 SI6 SJ6 => DoI E 21 [(.ref 55), (.int (i3 3)), (.long (SJ4 60 (gj_n r1))), (.long (-(SJ4 60 (gj_n r3)))), (.long x4), (.long r5)] SI6 SJ6 (fun r7 SI8 SJ8 => (r7 = 0 → GoV E mt_20 49 [some (.ref 55), some (.ref 42), some (.int x2), some (.int x3), some (.long x4), none, some (.int (x6 + (i3 1))), none, none, none] SI8 SJ8 Q) ∧ (¬ r7 = 0 → DoV E 22 [(.ref 55), (.int x2), (.int x3), (.int x6)] SI8 SJ8 (fun SI10 SJ10 => GoV E mt_20 49 [some (.ref 55), some (.ref 42), some (.int x2), some (.int x3), some (.long x4), none, some (.int (x6 + (i3 1))), none, none, none] SI10 SJ10 Q)))))))))) : GoV E mt_20 49 [some (.ref 55), some (.ref 42), some (.int x2), some (.int x3), some (.long x4), none, some (.int x6), none, none, none] SI SJ Q := by
  refine gj_goq gj_clT ok_20 [2, 14, 31, 49, 64, 76, 100, 103, 114] ?_
  show ((SI 42 9) ≤ x6 → gj_Goes E om0 mt_20 120 [some (.ref 55), some (.ref 42), some (.int x2), some (.int x3), some (.long x4), none, some (.int x6), none, none, none] [] SI SJ (QV Q)) ∧ (¬ (SI 42 9) ≤ x6 → gj_Do E om0 (gj_mt 2) [(.int x3), (.int x6)] SI SJ _)
  refine ⟨fun c1 => ?_, fun c1 => ?_⟩
  · refine gj_goq gj_clT ok_20 [2, 14, 31, 49, 64, 76, 100, 103, 114] ?_
    show gj_Goes E om0 mt_20 14 [some (.ref 55), some (.ref 42), some (.int x2), some (.int (x3 + (i3 1))), some (.long x4), none, some (.int x6), none, none, none] [] SI SJ (QV Q)
    exact gj_fh (h.1 c1) (And.intro (Or.inr rfl) (And.intro (Or.inr rfl) (And.intro (Or.inr rfl) (And.intro (Or.inr rfl) (And.intro (Or.inl rfl) (And.intro (Or.inl rfl) (And.intro (Or.inl rfl) (And.intro (Or.inl rfl) (And.intro (Or.inl rfl) (And.intro (Or.inl rfl) trivial))))))))))
  · refine gj_Do.mono (h.2 c1) (fun v_ SI2 SJ2 h_ => ?_)
    obtain ⟨r1, rfl, q2⟩ := h_
    show gj_Goes E om0 mt_20 64 [some (.ref 55), some (.ref 42), some (.int x2), some (.int x3), some (.long x4), none, some (.int x6), none, none, none] [(.int r1)] SI2 SJ2 (QV Q)
    refine gj_goq gj_clT ok_20 [2, 14, 31, 49, 64, 76, 100, 103, 114] ?_
    show gj_Do E om0 (gj_mt 2) [(.int x2), (.int x6)] SI2 SJ2 _
    refine gj_Do.mono q2 (fun v_ SI4 SJ4 h_ => ?_)
    obtain ⟨r3, rfl, q3⟩ := h_
    show gj_Goes E om0 mt_20 76 [some (.ref 55), some (.ref 42), some (.int x2), some (.int x3), some (.long x4), none, some (.int x6), some (.int r1), none, none] [(.int r3), (.ref 60)] SI4 SJ4 (QV Q)
    refine gj_goq gj_clT ok_20 [2, 14, 31, 49, 64, 76, 100, 103, 114] ?_
    show vp_in r3 91 ∧ (vp_in r1 91 ∧ (gj_Do E om0 (gj_mt 7) [(.ref 42), (.int x2), (.int r1)] SI4 SJ4 _))
    have k4 := q3.1
    refine ⟨k4, ?_⟩
    have k5 := q3.2.1
    refine ⟨k5, ?_⟩
    refine gj_Do.mono q3.2.2 (fun v_ SI6 SJ6 h_ => ?_)
    obtain ⟨r5, rfl, q6⟩ := h_
    show gj_Goes E om0 mt_20 100 [some (.ref 55), some (.ref 42), some (.int x2), some (.int x3), some (.long x4), none, some (.int x6), some (.int r1), some (.long (-(SJ4 60 (gj_n r3)))), none] [(.long r5), (.long x4), (.long (-(SJ4 60 (gj_n r3)))), (.long (SJ4 60 (gj_n r1))), (.int (i3 3)), (.ref 55)] SI6 SJ6 (QV Q)
    refine gj_goq gj_clT ok_20 [2, 14, 31, 49, 64, 76, 100, 103, 114] ?_
    show gj_Do E om0 (gj_mt 21) [(.ref 55), (.int (i3 3)), (.long (SJ4 60 (gj_n r1))), (.long (-(SJ4 60 (gj_n r3)))), (.long x4), (.long r5)] SI6 SJ6 _
    refine gj_Do.mono q6 (fun v_ SI8 SJ8 h_ => ?_)
    obtain ⟨r7, rfl, q7⟩ := h_
    show gj_Goes E om0 mt_20 103 [some (.ref 55), some (.ref 42), some (.int x2), some (.int x3), some (.long x4), none, some (.int x6), some (.int r1), some (.long (-(SJ4 60 (gj_n r3)))), none] [(.int r7)] SI8 SJ8 (QV Q)
    refine gj_goq gj_clT ok_20 [2, 14, 31, 49, 64, 76, 100, 103, 114] ?_
    show (r7 = 0 → gj_Goes E om0 mt_20 114 [some (.ref 55), some (.ref 42), some (.int x2), some (.int x3), some (.long x4), none, some (.int x6), some (.int r1), some (.long (-(SJ4 60 (gj_n r3)))), none] [] SI8 SJ8 (QV Q)) ∧ (¬ r7 = 0 → gj_Do E om0 (gj_mt 22) [(.ref 55), (.int x2), (.int x3), (.int x6)] SI8 SJ8 _)
    refine ⟨fun c8 => ?_, fun c8 => ?_⟩
    · refine gj_goq gj_clT ok_20 [2, 14, 31, 49, 64, 76, 100, 103, 114] ?_
      show gj_Goes E om0 mt_20 49 [some (.ref 55), some (.ref 42), some (.int x2), some (.int x3), some (.long x4), none, some (.int (x6 + (i3 1))), some (.int r1), some (.long (-(SJ4 60 (gj_n r3)))), none] [] SI8 SJ8 (QV Q)
      exact gj_fh (q7.1 c8) (And.intro (Or.inr rfl) (And.intro (Or.inr rfl) (And.intro (Or.inr rfl) (And.intro (Or.inr rfl) (And.intro (Or.inr rfl) (And.intro (Or.inl rfl) (And.intro (Or.inr rfl) (And.intro (Or.inl rfl) (And.intro (Or.inl rfl) (And.intro (Or.inl rfl) trivial))))))))))
    · refine gj_Do.mono (q7.2 c8) (fun v_ SI10 SJ10 h_ => ?_)
      obtain ⟨rfl, q9⟩ := h_
      show gj_Goes E om0 mt_20 114 [some (.ref 55), some (.ref 42), some (.int x2), some (.int x3), some (.long x4), none, some (.int x6), some (.int r1), some (.long (-(SJ4 60 (gj_n r3)))), none] [] SI10 SJ10 (QV Q)
      refine gj_goq gj_clT ok_20 [2, 14, 31, 49, 64, 76, 100, 103, 114] ?_
      show gj_Goes E om0 mt_20 49 [some (.ref 55), some (.ref 42), some (.int x2), some (.int x3), some (.long x4), none, some (.int (x6 + (i3 1))), some (.int r1), some (.long (-(SJ4 60 (gj_n r3)))), none] [] SI10 SJ10 (QV Q)
      exact gj_fh q9 (And.intro (Or.inr rfl) (And.intro (Or.inr rfl) (And.intro (Or.inr rfl) (And.intro (Or.inr rfl) (And.intro (Or.inr rfl) (And.intro (Or.inl rfl) (And.intro (Or.inr rfl) (And.intro (Or.inl rfl) (And.intro (Or.inl rfl) (And.intro (Or.inl rfl) trivial))))))))))
set_option maxRecDepth 20000 in
/-- GraspJudge$Hold.improves -/
theorem st_21 {E : gj_E} {Q : Int32 → gj_I → gj_J → Prop} (a1 : Int32) (a2 : Int64) (a3 : Int64) (a4 : Int64) (a5 : Int64) (SI : gj_I) (SJ : gj_J) (h : (a5 ≥ (i6 0) → (a5 = (i6 0) → Q (i3 0) SI SJ) ∧ (¬ a5 = (i6 0) → (((i3 1).toInt64 * a2) ≤ (i6 0) → Q (i3 0) SI SJ) ∧ (¬ ((i3 1).toInt64 * a2) ≤ (i6 0) → (a1 ≤ (i3 1) → (a1 ≤ (i3 2) → ((SI 55 8) = 0 → Q (i3 1) (gj_u2 (gj_u2 SI 55 8 (i3 1)) 55 5 a1) (gj_w2 (gj_w2 (gj_w2 (gj_w2 (gj_w2 SJ 59 0 ((i3 1).toInt64 * a2)) 59 1 ((i3 1).toInt64 * a3)) 59 2 ((i3 1).toInt64 * a4)) 55 6 ((i3 1).toInt64 * a5)) 55 7 ((i3 1).toInt64 * ((a2 + a3) + a4)))) ∧ (¬ (SI 55 8) = 0 → ((((i3 1).toInt64 * ((a2 + a3) + a4)) * (SJ 55 6)) < ((SJ 55 7) * ((i3 1).toInt64 * a5)) → Q (i3 1) (gj_u2 (gj_u2 SI 55 8 (i3 1)) 55 5 a1) (gj_w2 (gj_w2 (gj_w2 (gj_w2 (gj_w2 SJ 59 0 ((i3 1).toInt64 * a2)) 59 1 ((i3 1).toInt64 * a3)) 59 2 ((i3 1).toInt64 * a4)) 55 6 ((i3 1).toInt64 * a5)) 55 7 ((i3 1).toInt64 * ((a2 + a3) + a4)))) ∧ (¬ (((i3 1).toInt64 * ((a2 + a3) + a4)) * (SJ 55 6)) < ((SJ 55 7) * ((i3 1).toInt64 * a5)) → Q (i3 0) SI SJ))) ∧ (¬ a1 ≤ (i3 2) → (((i3 1).toInt64 * a4) > (i6 0) → ((SI 55 8) = 0 → Q (i3 1) (gj_u2 (gj_u2 SI 55 8 (i3 1)) 55 5 a1) (gj_w2 (gj_w2 (gj_w2 (gj_w2 (gj_w2 SJ 59 0 ((i3 1).toInt64 * a2)) 59 1 ((i3 1).toInt64 * a3)) 59 2 ((i3 1).toInt64 * a4)) 55 6 ((i3 1).toInt64 * a5)) 55 7 ((i3 1).toInt64 * ((a2 + a3) + a4)))) ∧ (¬ (SI 55 8) = 0 → ((((i3 1).toInt64 * ((a2 + a3) + a4)) * (SJ 55 6)) < ((SJ 55 7) * ((i3 1).toInt64 * a5)) → Q (i3 1) (gj_u2 (gj_u2 SI 55 8 (i3 1)) 55 5 a1) (gj_w2 (gj_w2 (gj_w2 (gj_w2 (gj_w2 SJ 59 0 ((i3 1).toInt64 * a2)) 59 1 ((i3 1).toInt64 * a3)) 59 2 ((i3 1).toInt64 * a4)) 55 6 ((i3 1).toInt64 * a5)) 55 7 ((i3 1).toInt64 * ((a2 + a3) + a4)))) ∧ (¬ (((i3 1).toInt64 * ((a2 + a3) + a4)) * (SJ 55 6)) < ((SJ 55 7) * ((i3 1).toInt64 * a5)) → Q (i3 0) SI SJ))) ∧ (¬ ((i3 1).toInt64 * a4) > (i6 0) → Q (i3 0) SI SJ))) ∧ (¬ a1 ≤ (i3 1) → (((i3 1).toInt64 * a3) ≤ (i6 0) → Q (i3 0) SI SJ) ∧ (¬ ((i3 1).toInt64 * a3) ≤ (i6 0) → (a1 ≤ (i3 2) → ((SI 55 8) = 0 → Q (i3 1) (gj_u2 (gj_u2 SI 55 8 (i3 1)) 55 5 a1) (gj_w2 (gj_w2 (gj_w2 (gj_w2 (gj_w2 SJ 59 0 ((i3 1).toInt64 * a2)) 59 1 ((i3 1).toInt64 * a3)) 59 2 ((i3 1).toInt64 * a4)) 55 6 ((i3 1).toInt64 * a5)) 55 7 ((i3 1).toInt64 * ((a2 + a3) + a4)))) ∧ (¬ (SI 55 8) = 0 → ((((i3 1).toInt64 * ((a2 + a3) + a4)) * (SJ 55 6)) < ((SJ 55 7) * ((i3 1).toInt64 * a5)) → Q (i3 1) (gj_u2 (gj_u2 SI 55 8 (i3 1)) 55 5 a1) (gj_w2 (gj_w2 (gj_w2 (gj_w2 (gj_w2 SJ 59 0 ((i3 1).toInt64 * a2)) 59 1 ((i3 1).toInt64 * a3)) 59 2 ((i3 1).toInt64 * a4)) 55 6 ((i3 1).toInt64 * a5)) 55 7 ((i3 1).toInt64 * ((a2 + a3) + a4)))) ∧ (¬ (((i3 1).toInt64 * ((a2 + a3) + a4)) * (SJ 55 6)) < ((SJ 55 7) * ((i3 1).toInt64 * a5)) → Q (i3 0) SI SJ))) ∧ (¬ a1 ≤ (i3 2) → (((i3 1).toInt64 * a4) > (i6 0) → ((SI 55 8) = 0 → Q (i3 1) (gj_u2 (gj_u2 SI 55 8 (i3 1)) 55 5 a1) (gj_w2 (gj_w2 (gj_w2 (gj_w2 (gj_w2 SJ 59 0 ((i3 1).toInt64 * a2)) 59 1 ((i3 1).toInt64 * a3)) 59 2 ((i3 1).toInt64 * a4)) 55 6 ((i3 1).toInt64 * a5)) 55 7 ((i3 1).toInt64 * ((a2 + a3) + a4)))) ∧ (¬ (SI 55 8) = 0 → ((((i3 1).toInt64 * ((a2 + a3) + a4)) * (SJ 55 6)) < ((SJ 55 7) * ((i3 1).toInt64 * a5)) → Q (i3 1) (gj_u2 (gj_u2 SI 55 8 (i3 1)) 55 5 a1) (gj_w2 (gj_w2 (gj_w2 (gj_w2 (gj_w2 SJ 59 0 ((i3 1).toInt64 * a2)) 59 1 ((i3 1).toInt64 * a3)) 59 2 ((i3 1).toInt64 * a4)) 55 6 ((i3 1).toInt64 * a5)) 55 7 ((i3 1).toInt64 * ((a2 + a3) + a4)))) ∧ (¬ (((i3 1).toInt64 * ((a2 + a3) + a4)) * (SJ 55 6)) < ((SJ 55 7) * ((i3 1).toInt64 * a5)) → Q (i3 0) SI SJ))) ∧ (¬ ((i3 1).toInt64 * a4) > (i6 0) → Q (i3 0) SI SJ))))))) ∧ (¬ a5 ≥ (i6 0) → (a5 = (i6 0) → Q (i3 0) SI SJ) ∧ (¬ a5 = (i6 0) → (((i3 (-1)).toInt64 * a2) ≤ (i6 0) → Q (i3 0) SI SJ) ∧ (¬ ((i3 (-1)).toInt64 * a2) ≤ (i6 0) → (a1 ≤ (i3 1) → (a1 ≤ (i3 2) → ((SI 55 8) = 0 → Q (i3 1) (gj_u2 (gj_u2 SI 55 8 (i3 1)) 55 5 a1) (gj_w2 (gj_w2 (gj_w2 (gj_w2 (gj_w2 SJ 59 0 ((i3 (-1)).toInt64 * a2)) 59 1 ((i3 (-1)).toInt64 * a3)) 59 2 ((i3 (-1)).toInt64 * a4)) 55 6 ((i3 (-1)).toInt64 * a5)) 55 7 ((i3 (-1)).toInt64 * ((a2 + a3) + a4)))) ∧ (¬ (SI 55 8) = 0 → ((((i3 (-1)).toInt64 * ((a2 + a3) + a4)) * (SJ 55 6)) < ((SJ 55 7) * ((i3 (-1)).toInt64 * a5)) → Q (i3 1) (gj_u2 (gj_u2 SI 55 8 (i3 1)) 55 5 a1) (gj_w2 (gj_w2 (gj_w2 (gj_w2 (gj_w2 SJ 59 0 ((i3 (-1)).toInt64 * a2)) 59 1 ((i3 (-1)).toInt64 * a3)) 59 2 ((i3 (-1)).toInt64 * a4)) 55 6 ((i3 (-1)).toInt64 * a5)) 55 7 ((i3 (-1)).toInt64 * ((a2 + a3) + a4)))) ∧ (¬ (((i3 (-1)).toInt64 * ((a2 + a3) + a4)) * (SJ 55 6)) < ((SJ 55 7) * ((i3 (-1)).toInt64 * a5)) → Q (i3 0) SI SJ))) ∧ (¬ a1 ≤ (i3 2) → (((i3 (-1)).toInt64 * a4) > (i6 0) → ((SI 55 8) = 0 → Q (i3 1) (gj_u2 (gj_u2 SI 55 8 (i3 1)) 55 5 a1) (gj_w2 (gj_w2 (gj_w2 (gj_w2 (gj_w2 SJ 59 0 ((i3 (-1)).toInt64 * a2)) 59 1 ((i3 (-1)).toInt64 * a3)) 59 2 ((i3 (-1)).toInt64 * a4)) 55 6 ((i3 (-1)).toInt64 * a5)) 55 7 ((i3 (-1)).toInt64 * ((a2 + a3) + a4)))) ∧ (¬ (SI 55 8) = 0 → ((((i3 (-1)).toInt64 * ((a2 + a3) + a4)) * (SJ 55 6)) < ((SJ 55 7) * ((i3 (-1)).toInt64 * a5)) → Q (i3 1) (gj_u2 (gj_u2 SI 55 8 (i3 1)) 55 5 a1) (gj_w2 (gj_w2 (gj_w2 (gj_w2 (gj_w2 SJ 59 0 ((i3 (-1)).toInt64 * a2)) 59 1 ((i3 (-1)).toInt64 * a3)) 59 2 ((i3 (-1)).toInt64 * a4)) 55 6 ((i3 (-1)).toInt64 * a5)) 55 7 ((i3 (-1)).toInt64 * ((a2 + a3) + a4)))) ∧ (¬ (((i3 (-1)).toInt64 * ((a2 + a3) + a4)) * (SJ 55 6)) < ((SJ 55 7) * ((i3 (-1)).toInt64 * a5)) → Q (i3 0) SI SJ))) ∧ (¬ ((i3 (-1)).toInt64 * a4) > (i6 0) → Q (i3 0) SI SJ))) ∧ (¬ a1 ≤ (i3 1) → (((i3 (-1)).toInt64 * a3) ≤ (i6 0) → Q (i3 0) SI SJ) ∧ (¬ ((i3 (-1)).toInt64 * a3) ≤ (i6 0) → (a1 ≤ (i3 2) → ((SI 55 8) = 0 → Q (i3 1) (gj_u2 (gj_u2 SI 55 8 (i3 1)) 55 5 a1) (gj_w2 (gj_w2 (gj_w2 (gj_w2 (gj_w2 SJ 59 0 ((i3 (-1)).toInt64 * a2)) 59 1 ((i3 (-1)).toInt64 * a3)) 59 2 ((i3 (-1)).toInt64 * a4)) 55 6 ((i3 (-1)).toInt64 * a5)) 55 7 ((i3 (-1)).toInt64 * ((a2 + a3) + a4)))) ∧ (¬ (SI 55 8) = 0 → ((((i3 (-1)).toInt64 * ((a2 + a3) + a4)) * (SJ 55 6)) < ((SJ 55 7) * ((i3 (-1)).toInt64 * a5)) → Q (i3 1) (gj_u2 (gj_u2 SI 55 8 (i3 1)) 55 5 a1) (gj_w2 (gj_w2 (gj_w2 (gj_w2 (gj_w2 SJ 59 0 ((i3 (-1)).toInt64 * a2)) 59 1 ((i3 (-1)).toInt64 * a3)) 59 2 ((i3 (-1)).toInt64 * a4)) 55 6 ((i3 (-1)).toInt64 * a5)) 55 7 ((i3 (-1)).toInt64 * ((a2 + a3) + a4)))) ∧ (¬ (((i3 (-1)).toInt64 * ((a2 + a3) + a4)) * (SJ 55 6)) < ((SJ 55 7) * ((i3 (-1)).toInt64 * a5)) → Q (i3 0) SI SJ))) ∧ (¬ a1 ≤ (i3 2) → (((i3 (-1)).toInt64 * a4) > (i6 0) → ((SI 55 8) = 0 → Q (i3 1) (gj_u2 (gj_u2 SI 55 8 (i3 1)) 55 5 a1) (gj_w2 (gj_w2 (gj_w2 (gj_w2 (gj_w2 SJ 59 0 ((i3 (-1)).toInt64 * a2)) 59 1 ((i3 (-1)).toInt64 * a3)) 59 2 ((i3 (-1)).toInt64 * a4)) 55 6 ((i3 (-1)).toInt64 * a5)) 55 7 ((i3 (-1)).toInt64 * ((a2 + a3) + a4)))) ∧ (¬ (SI 55 8) = 0 → ((((i3 (-1)).toInt64 * ((a2 + a3) + a4)) * (SJ 55 6)) < ((SJ 55 7) * ((i3 (-1)).toInt64 * a5)) → Q (i3 1) (gj_u2 (gj_u2 SI 55 8 (i3 1)) 55 5 a1) (gj_w2 (gj_w2 (gj_w2 (gj_w2 (gj_w2 SJ 59 0 ((i3 (-1)).toInt64 * a2)) 59 1 ((i3 (-1)).toInt64 * a3)) 59 2 ((i3 (-1)).toInt64 * a4)) 55 6 ((i3 (-1)).toInt64 * a5)) 55 7 ((i3 (-1)).toInt64 * ((a2 + a3) + a4)))) ∧ (¬ (((i3 (-1)).toInt64 * ((a2 + a3) + a4)) * (SJ 55 6)) < ((SJ 55 7) * ((i3 (-1)).toInt64 * a5)) → Q (i3 0) SI SJ))) ∧ (¬ ((i3 (-1)).toInt64 * a4) > (i6 0) → Q (i3 0) SI SJ)))))))) : DoI E 21 [(.ref 55), (.int a1), (.long a2), (.long a3), (.long a4), (.long a5)] SI SJ Q := by
  refine gj_start (M := mt_21) ok_21 (Nat.le_of_ble_eq_true rfl) ?_
  refine gj_goq gj_clT ok_21 [] ?_
  show (0 ≤ (lg_cmp a5 (i6 0)) → gj_Goes E om0 mt_21 11 [some (.ref 55), some (.int a1), some (.long a2), none, some (.long a3), none, some (.long a4), none, some (.long a5), none, none, none, none] [] SI SJ (QI Q)) ∧ (¬ 0 ≤ (lg_cmp a5 (i6 0)) → gj_Goes E om0 mt_21 12 [some (.ref 55), some (.int a1), some (.long a2), none, some (.long a3), none, some (.long a4), none, some (.long a5), none, none, none, none] [(.int (i3 (-1)))] SI SJ (QI Q))
  refine ⟨fun c1 => ?_, fun c1 => ?_⟩
  · refine gj_goq gj_clT ok_21 [] ?_
    show ((lg_cmp a5 (i6 0)) = 0 → gj_Goes E om0 mt_21 63 [some (.ref 55), some (.int a1), some (.long a2), none, some (.long a3), none, some (.long a4), none, some (.long a5), none, some (.int (i3 1)), none, none] [] SI SJ (QI Q)) ∧ (¬ (lg_cmp a5 (i6 0)) = 0 → ((lg_cmp ((i3 1).toInt64 * a2) (i6 0)) ≤ 0 → gj_Goes E om0 mt_21 63 [some (.ref 55), some (.int a1), some (.long a2), none, some (.long a3), none, some (.long a4), none, some (.long a5), none, some (.int (i3 1)), none, none] [] SI SJ (QI Q)) ∧ (¬ (lg_cmp ((i3 1).toInt64 * a2) (i6 0)) ≤ 0 → (a1 ≤ (i3 1) → gj_Goes E om0 mt_21 47 [some (.ref 55), some (.int a1), some (.long a2), none, some (.long a3), none, some (.long a4), none, some (.long a5), none, some (.int (i3 1)), none, none] [] SI SJ (QI Q)) ∧ (¬ a1 ≤ (i3 1) → ((lg_cmp ((i3 1).toInt64 * a3) (i6 0)) ≤ 0 → gj_Goes E om0 mt_21 63 [some (.ref 55), some (.int a1), some (.long a2), none, some (.long a3), none, some (.long a4), none, some (.long a5), none, some (.int (i3 1)), none, none] [] SI SJ (QI Q)) ∧ (¬ (lg_cmp ((i3 1).toInt64 * a3) (i6 0)) ≤ 0 → (a1 ≤ (i3 2) → gj_Goes E om0 mt_21 65 [some (.ref 55), some (.int a1), some (.long a2), none, some (.long a3), none, some (.long a4), none, some (.long a5), none, some (.int (i3 1)), none, none] [] SI SJ (QI Q)) ∧ (¬ a1 ≤ (i3 2) → (0 < (lg_cmp ((i3 1).toInt64 * a4) (i6 0)) → gj_Goes E om0 mt_21 65 [some (.ref 55), some (.int a1), some (.long a2), none, some (.long a3), none, some (.long a4), none, some (.long a5), none, some (.int (i3 1)), none, none] [] SI SJ (QI Q)) ∧ (¬ 0 < (lg_cmp ((i3 1).toInt64 * a4) (i6 0)) → ((i3 0) = 0 ∨ (i3 0) = 1) ∧ (QI Q (some (.int (i3 0))) SI SJ)))))))
    refine ⟨fun c2 => ?_, fun c2 => ?_⟩
    · refine gj_goq gj_clT ok_21 [] ?_
      show ((i3 0) = 0 ∨ (i3 0) = 1) ∧ (QI Q (some (.int (i3 0))) SI SJ)
      refine ⟨(Or.inl rfl), ?_⟩
      exact ⟨_, rfl, ((h.1 (lgc_ge.mp c1)).1 (lgc_eq.mp c2))⟩
    · refine ⟨fun c3 => ?_, fun c3 => ?_⟩
      · refine gj_goq gj_clT ok_21 [] ?_
        show ((i3 0) = 0 ∨ (i3 0) = 1) ∧ (QI Q (some (.int (i3 0))) SI SJ)
        refine ⟨(Or.inl rfl), ?_⟩
        exact ⟨_, rfl, (((h.1 (lgc_ge.mp c1)).2 (fun z_ => c2 (lgc_eq.mpr z_))).1 (lgc_le.mp c3))⟩
      · refine ⟨fun c4 => ?_, fun c4 => ?_⟩
        · refine gj_goq gj_clT ok_21 [] ?_
          show (a1 ≤ (i3 2) → gj_Goes E om0 mt_21 65 [some (.ref 55), some (.int a1), some (.long a2), none, some (.long a3), none, some (.long a4), none, some (.long a5), none, some (.int (i3 1)), none, none] [] SI SJ (QI Q)) ∧ (¬ a1 ≤ (i3 2) → (0 < (lg_cmp ((i3 1).toInt64 * a4) (i6 0)) → gj_Goes E om0 mt_21 65 [some (.ref 55), some (.int a1), some (.long a2), none, some (.long a3), none, some (.long a4), none, some (.long a5), none, some (.int (i3 1)), none, none] [] SI SJ (QI Q)) ∧ (¬ 0 < (lg_cmp ((i3 1).toInt64 * a4) (i6 0)) → ((i3 0) = 0 ∨ (i3 0) = 1) ∧ (QI Q (some (.int (i3 0))) SI SJ)))
          refine ⟨fun c5 => ?_, fun c5 => ?_⟩
          · refine gj_goq gj_clT ok_21 [] ?_
            show ((SI 55 8) = 0 → gj_Goes E om0 mt_21 109 [some (.ref 55), some (.int a1), some (.long a2), none, some (.long a3), none, some (.long a4), none, some (.long a5), none, some (.int (i3 1)), some (.long ((i3 1).toInt64 * ((a2 + a3) + a4))), none] [] SI SJ (QI Q)) ∧ (¬ (SI 55 8) = 0 → ((lg_cmp (((i3 1).toInt64 * ((a2 + a3) + a4)) * (SJ 55 6)) ((SJ 55 7) * ((i3 1).toInt64 * a5))) < 0 → gj_Goes E om0 mt_21 109 [some (.ref 55), some (.int a1), some (.long a2), none, some (.long a3), none, some (.long a4), none, some (.long a5), none, some (.int (i3 1)), some (.long ((i3 1).toInt64 * ((a2 + a3) + a4))), none] [] SI SJ (QI Q)) ∧ (¬ (lg_cmp (((i3 1).toInt64 * ((a2 + a3) + a4)) * (SJ 55 6)) ((SJ 55 7) * ((i3 1).toInt64 * a5))) < 0 → ((i3 0) = 0 ∨ (i3 0) = 1) ∧ (QI Q (some (.int (i3 0))) SI SJ)))
            refine ⟨fun c6 => ?_, fun c6 => ?_⟩
            · refine gj_goq gj_clT ok_21 [] ?_
              show ((i3 1) = 0 ∨ (i3 1) = 1) ∧ (vp_in (i3 0) 3 ∧ (vp_in (i3 1) 3 ∧ (vp_in (i3 2) 3 ∧ (((i3 1) = 0 ∨ (i3 1) = 1) ∧ (QI Q (some (.int (i3 1))) (gj_u2 (gj_u2 SI 55 8 (i3 1)) 55 5 a1) (gj_w2 (gj_w2 (gj_w2 (gj_w2 (gj_w2 SJ 59 0 ((i3 1).toInt64 * a2)) 59 1 ((i3 1).toInt64 * a3)) 59 2 ((i3 1).toInt64 * a4)) 55 6 ((i3 1).toInt64 * a5)) 55 7 ((i3 1).toInt64 * ((a2 + a3) + a4))))))))
              refine ⟨(Or.inr rfl), ?_⟩
              refine ⟨(gj_vin (by decide)), ?_⟩
              refine ⟨(gj_vin (by decide)), ?_⟩
              refine ⟨(gj_vin (by decide)), ?_⟩
              refine ⟨(Or.inr rfl), ?_⟩
              exact ⟨_, rfl, ((((((h.1 (lgc_ge.mp c1)).2 (fun z_ => c2 (lgc_eq.mpr z_))).2 (fun z_ => c3 (lgc_le.mpr z_))).1 c4).1 c5).1 c6)⟩
            · refine ⟨fun c7 => ?_, fun c7 => ?_⟩
              · refine gj_goq gj_clT ok_21 [] ?_
                show ((i3 1) = 0 ∨ (i3 1) = 1) ∧ (vp_in (i3 0) 3 ∧ (vp_in (i3 1) 3 ∧ (vp_in (i3 2) 3 ∧ (((i3 1) = 0 ∨ (i3 1) = 1) ∧ (QI Q (some (.int (i3 1))) (gj_u2 (gj_u2 SI 55 8 (i3 1)) 55 5 a1) (gj_w2 (gj_w2 (gj_w2 (gj_w2 (gj_w2 SJ 59 0 ((i3 1).toInt64 * a2)) 59 1 ((i3 1).toInt64 * a3)) 59 2 ((i3 1).toInt64 * a4)) 55 6 ((i3 1).toInt64 * a5)) 55 7 ((i3 1).toInt64 * ((a2 + a3) + a4))))))))
                refine ⟨(Or.inr rfl), ?_⟩
                refine ⟨(gj_vin (by decide)), ?_⟩
                refine ⟨(gj_vin (by decide)), ?_⟩
                refine ⟨(gj_vin (by decide)), ?_⟩
                refine ⟨(Or.inr rfl), ?_⟩
                exact ⟨_, rfl, (((((((h.1 (lgc_ge.mp c1)).2 (fun z_ => c2 (lgc_eq.mpr z_))).2 (fun z_ => c3 (lgc_le.mpr z_))).1 c4).1 c5).2 c6).1 (lgc_lt.mp c7))⟩
              · refine ⟨(Or.inl rfl), ?_⟩
                exact ⟨_, rfl, (((((((h.1 (lgc_ge.mp c1)).2 (fun z_ => c2 (lgc_eq.mpr z_))).2 (fun z_ => c3 (lgc_le.mpr z_))).1 c4).1 c5).2 c6).2 (fun z_ => c7 (lgc_lt.mpr z_)))⟩
          · refine ⟨fun c8 => ?_, fun c8 => ?_⟩
            · refine gj_goq gj_clT ok_21 [] ?_
              show ((SI 55 8) = 0 → gj_Goes E om0 mt_21 109 [some (.ref 55), some (.int a1), some (.long a2), none, some (.long a3), none, some (.long a4), none, some (.long a5), none, some (.int (i3 1)), some (.long ((i3 1).toInt64 * ((a2 + a3) + a4))), none] [] SI SJ (QI Q)) ∧ (¬ (SI 55 8) = 0 → ((lg_cmp (((i3 1).toInt64 * ((a2 + a3) + a4)) * (SJ 55 6)) ((SJ 55 7) * ((i3 1).toInt64 * a5))) < 0 → gj_Goes E om0 mt_21 109 [some (.ref 55), some (.int a1), some (.long a2), none, some (.long a3), none, some (.long a4), none, some (.long a5), none, some (.int (i3 1)), some (.long ((i3 1).toInt64 * ((a2 + a3) + a4))), none] [] SI SJ (QI Q)) ∧ (¬ (lg_cmp (((i3 1).toInt64 * ((a2 + a3) + a4)) * (SJ 55 6)) ((SJ 55 7) * ((i3 1).toInt64 * a5))) < 0 → ((i3 0) = 0 ∨ (i3 0) = 1) ∧ (QI Q (some (.int (i3 0))) SI SJ)))
              refine ⟨fun c9 => ?_, fun c9 => ?_⟩
              · refine gj_goq gj_clT ok_21 [] ?_
                show ((i3 1) = 0 ∨ (i3 1) = 1) ∧ (vp_in (i3 0) 3 ∧ (vp_in (i3 1) 3 ∧ (vp_in (i3 2) 3 ∧ (((i3 1) = 0 ∨ (i3 1) = 1) ∧ (QI Q (some (.int (i3 1))) (gj_u2 (gj_u2 SI 55 8 (i3 1)) 55 5 a1) (gj_w2 (gj_w2 (gj_w2 (gj_w2 (gj_w2 SJ 59 0 ((i3 1).toInt64 * a2)) 59 1 ((i3 1).toInt64 * a3)) 59 2 ((i3 1).toInt64 * a4)) 55 6 ((i3 1).toInt64 * a5)) 55 7 ((i3 1).toInt64 * ((a2 + a3) + a4))))))))
                refine ⟨(Or.inr rfl), ?_⟩
                refine ⟨(gj_vin (by decide)), ?_⟩
                refine ⟨(gj_vin (by decide)), ?_⟩
                refine ⟨(gj_vin (by decide)), ?_⟩
                refine ⟨(Or.inr rfl), ?_⟩
                exact ⟨_, rfl, (((((((h.1 (lgc_ge.mp c1)).2 (fun z_ => c2 (lgc_eq.mpr z_))).2 (fun z_ => c3 (lgc_le.mpr z_))).1 c4).2 c5).1 (lgc_gt.mp c8)).1 c9)⟩
              · refine ⟨fun c10 => ?_, fun c10 => ?_⟩
                · refine gj_goq gj_clT ok_21 [] ?_
                  show ((i3 1) = 0 ∨ (i3 1) = 1) ∧ (vp_in (i3 0) 3 ∧ (vp_in (i3 1) 3 ∧ (vp_in (i3 2) 3 ∧ (((i3 1) = 0 ∨ (i3 1) = 1) ∧ (QI Q (some (.int (i3 1))) (gj_u2 (gj_u2 SI 55 8 (i3 1)) 55 5 a1) (gj_w2 (gj_w2 (gj_w2 (gj_w2 (gj_w2 SJ 59 0 ((i3 1).toInt64 * a2)) 59 1 ((i3 1).toInt64 * a3)) 59 2 ((i3 1).toInt64 * a4)) 55 6 ((i3 1).toInt64 * a5)) 55 7 ((i3 1).toInt64 * ((a2 + a3) + a4))))))))
                  refine ⟨(Or.inr rfl), ?_⟩
                  refine ⟨(gj_vin (by decide)), ?_⟩
                  refine ⟨(gj_vin (by decide)), ?_⟩
                  refine ⟨(gj_vin (by decide)), ?_⟩
                  refine ⟨(Or.inr rfl), ?_⟩
                  exact ⟨_, rfl, ((((((((h.1 (lgc_ge.mp c1)).2 (fun z_ => c2 (lgc_eq.mpr z_))).2 (fun z_ => c3 (lgc_le.mpr z_))).1 c4).2 c5).1 (lgc_gt.mp c8)).2 c9).1 (lgc_lt.mp c10))⟩
                · refine ⟨(Or.inl rfl), ?_⟩
                  exact ⟨_, rfl, ((((((((h.1 (lgc_ge.mp c1)).2 (fun z_ => c2 (lgc_eq.mpr z_))).2 (fun z_ => c3 (lgc_le.mpr z_))).1 c4).2 c5).1 (lgc_gt.mp c8)).2 c9).2 (fun z_ => c10 (lgc_lt.mpr z_)))⟩
            · refine ⟨(Or.inl rfl), ?_⟩
              exact ⟨_, rfl, ((((((h.1 (lgc_ge.mp c1)).2 (fun z_ => c2 (lgc_eq.mpr z_))).2 (fun z_ => c3 (lgc_le.mpr z_))).1 c4).2 c5).2 (fun z_ => c8 (lgc_gt.mpr z_)))⟩
        · refine ⟨fun c11 => ?_, fun c11 => ?_⟩
          · refine gj_goq gj_clT ok_21 [] ?_
            show ((i3 0) = 0 ∨ (i3 0) = 1) ∧ (QI Q (some (.int (i3 0))) SI SJ)
            refine ⟨(Or.inl rfl), ?_⟩
            exact ⟨_, rfl, (((((h.1 (lgc_ge.mp c1)).2 (fun z_ => c2 (lgc_eq.mpr z_))).2 (fun z_ => c3 (lgc_le.mpr z_))).2 c4).1 (lgc_le.mp c11))⟩
          · refine ⟨fun c12 => ?_, fun c12 => ?_⟩
            · refine gj_goq gj_clT ok_21 [] ?_
              show ((SI 55 8) = 0 → gj_Goes E om0 mt_21 109 [some (.ref 55), some (.int a1), some (.long a2), none, some (.long a3), none, some (.long a4), none, some (.long a5), none, some (.int (i3 1)), some (.long ((i3 1).toInt64 * ((a2 + a3) + a4))), none] [] SI SJ (QI Q)) ∧ (¬ (SI 55 8) = 0 → ((lg_cmp (((i3 1).toInt64 * ((a2 + a3) + a4)) * (SJ 55 6)) ((SJ 55 7) * ((i3 1).toInt64 * a5))) < 0 → gj_Goes E om0 mt_21 109 [some (.ref 55), some (.int a1), some (.long a2), none, some (.long a3), none, some (.long a4), none, some (.long a5), none, some (.int (i3 1)), some (.long ((i3 1).toInt64 * ((a2 + a3) + a4))), none] [] SI SJ (QI Q)) ∧ (¬ (lg_cmp (((i3 1).toInt64 * ((a2 + a3) + a4)) * (SJ 55 6)) ((SJ 55 7) * ((i3 1).toInt64 * a5))) < 0 → ((i3 0) = 0 ∨ (i3 0) = 1) ∧ (QI Q (some (.int (i3 0))) SI SJ)))
              refine ⟨fun c13 => ?_, fun c13 => ?_⟩
              · refine gj_goq gj_clT ok_21 [] ?_
                show ((i3 1) = 0 ∨ (i3 1) = 1) ∧ (vp_in (i3 0) 3 ∧ (vp_in (i3 1) 3 ∧ (vp_in (i3 2) 3 ∧ (((i3 1) = 0 ∨ (i3 1) = 1) ∧ (QI Q (some (.int (i3 1))) (gj_u2 (gj_u2 SI 55 8 (i3 1)) 55 5 a1) (gj_w2 (gj_w2 (gj_w2 (gj_w2 (gj_w2 SJ 59 0 ((i3 1).toInt64 * a2)) 59 1 ((i3 1).toInt64 * a3)) 59 2 ((i3 1).toInt64 * a4)) 55 6 ((i3 1).toInt64 * a5)) 55 7 ((i3 1).toInt64 * ((a2 + a3) + a4))))))))
                refine ⟨(Or.inr rfl), ?_⟩
                refine ⟨(gj_vin (by decide)), ?_⟩
                refine ⟨(gj_vin (by decide)), ?_⟩
                refine ⟨(gj_vin (by decide)), ?_⟩
                refine ⟨(Or.inr rfl), ?_⟩
                exact ⟨_, rfl, (((((((h.1 (lgc_ge.mp c1)).2 (fun z_ => c2 (lgc_eq.mpr z_))).2 (fun z_ => c3 (lgc_le.mpr z_))).2 c4).2 (fun z_ => c11 (lgc_le.mpr z_))).1 c12).1 c13)⟩
              · refine ⟨fun c14 => ?_, fun c14 => ?_⟩
                · refine gj_goq gj_clT ok_21 [] ?_
                  show ((i3 1) = 0 ∨ (i3 1) = 1) ∧ (vp_in (i3 0) 3 ∧ (vp_in (i3 1) 3 ∧ (vp_in (i3 2) 3 ∧ (((i3 1) = 0 ∨ (i3 1) = 1) ∧ (QI Q (some (.int (i3 1))) (gj_u2 (gj_u2 SI 55 8 (i3 1)) 55 5 a1) (gj_w2 (gj_w2 (gj_w2 (gj_w2 (gj_w2 SJ 59 0 ((i3 1).toInt64 * a2)) 59 1 ((i3 1).toInt64 * a3)) 59 2 ((i3 1).toInt64 * a4)) 55 6 ((i3 1).toInt64 * a5)) 55 7 ((i3 1).toInt64 * ((a2 + a3) + a4))))))))
                  refine ⟨(Or.inr rfl), ?_⟩
                  refine ⟨(gj_vin (by decide)), ?_⟩
                  refine ⟨(gj_vin (by decide)), ?_⟩
                  refine ⟨(gj_vin (by decide)), ?_⟩
                  refine ⟨(Or.inr rfl), ?_⟩
                  exact ⟨_, rfl, ((((((((h.1 (lgc_ge.mp c1)).2 (fun z_ => c2 (lgc_eq.mpr z_))).2 (fun z_ => c3 (lgc_le.mpr z_))).2 c4).2 (fun z_ => c11 (lgc_le.mpr z_))).1 c12).2 c13).1 (lgc_lt.mp c14))⟩
                · refine ⟨(Or.inl rfl), ?_⟩
                  exact ⟨_, rfl, ((((((((h.1 (lgc_ge.mp c1)).2 (fun z_ => c2 (lgc_eq.mpr z_))).2 (fun z_ => c3 (lgc_le.mpr z_))).2 c4).2 (fun z_ => c11 (lgc_le.mpr z_))).1 c12).2 c13).2 (fun z_ => c14 (lgc_lt.mpr z_)))⟩
            · refine ⟨fun c15 => ?_, fun c15 => ?_⟩
              · refine gj_goq gj_clT ok_21 [] ?_
                show ((SI 55 8) = 0 → gj_Goes E om0 mt_21 109 [some (.ref 55), some (.int a1), some (.long a2), none, some (.long a3), none, some (.long a4), none, some (.long a5), none, some (.int (i3 1)), some (.long ((i3 1).toInt64 * ((a2 + a3) + a4))), none] [] SI SJ (QI Q)) ∧ (¬ (SI 55 8) = 0 → ((lg_cmp (((i3 1).toInt64 * ((a2 + a3) + a4)) * (SJ 55 6)) ((SJ 55 7) * ((i3 1).toInt64 * a5))) < 0 → gj_Goes E om0 mt_21 109 [some (.ref 55), some (.int a1), some (.long a2), none, some (.long a3), none, some (.long a4), none, some (.long a5), none, some (.int (i3 1)), some (.long ((i3 1).toInt64 * ((a2 + a3) + a4))), none] [] SI SJ (QI Q)) ∧ (¬ (lg_cmp (((i3 1).toInt64 * ((a2 + a3) + a4)) * (SJ 55 6)) ((SJ 55 7) * ((i3 1).toInt64 * a5))) < 0 → ((i3 0) = 0 ∨ (i3 0) = 1) ∧ (QI Q (some (.int (i3 0))) SI SJ)))
                refine ⟨fun c16 => ?_, fun c16 => ?_⟩
                · refine gj_goq gj_clT ok_21 [] ?_
                  show ((i3 1) = 0 ∨ (i3 1) = 1) ∧ (vp_in (i3 0) 3 ∧ (vp_in (i3 1) 3 ∧ (vp_in (i3 2) 3 ∧ (((i3 1) = 0 ∨ (i3 1) = 1) ∧ (QI Q (some (.int (i3 1))) (gj_u2 (gj_u2 SI 55 8 (i3 1)) 55 5 a1) (gj_w2 (gj_w2 (gj_w2 (gj_w2 (gj_w2 SJ 59 0 ((i3 1).toInt64 * a2)) 59 1 ((i3 1).toInt64 * a3)) 59 2 ((i3 1).toInt64 * a4)) 55 6 ((i3 1).toInt64 * a5)) 55 7 ((i3 1).toInt64 * ((a2 + a3) + a4))))))))
                  refine ⟨(Or.inr rfl), ?_⟩
                  refine ⟨(gj_vin (by decide)), ?_⟩
                  refine ⟨(gj_vin (by decide)), ?_⟩
                  refine ⟨(gj_vin (by decide)), ?_⟩
                  refine ⟨(Or.inr rfl), ?_⟩
                  exact ⟨_, rfl, ((((((((h.1 (lgc_ge.mp c1)).2 (fun z_ => c2 (lgc_eq.mpr z_))).2 (fun z_ => c3 (lgc_le.mpr z_))).2 c4).2 (fun z_ => c11 (lgc_le.mpr z_))).2 c12).1 (lgc_gt.mp c15)).1 c16)⟩
                · refine ⟨fun c17 => ?_, fun c17 => ?_⟩
                  · refine gj_goq gj_clT ok_21 [] ?_
                    show ((i3 1) = 0 ∨ (i3 1) = 1) ∧ (vp_in (i3 0) 3 ∧ (vp_in (i3 1) 3 ∧ (vp_in (i3 2) 3 ∧ (((i3 1) = 0 ∨ (i3 1) = 1) ∧ (QI Q (some (.int (i3 1))) (gj_u2 (gj_u2 SI 55 8 (i3 1)) 55 5 a1) (gj_w2 (gj_w2 (gj_w2 (gj_w2 (gj_w2 SJ 59 0 ((i3 1).toInt64 * a2)) 59 1 ((i3 1).toInt64 * a3)) 59 2 ((i3 1).toInt64 * a4)) 55 6 ((i3 1).toInt64 * a5)) 55 7 ((i3 1).toInt64 * ((a2 + a3) + a4))))))))
                    refine ⟨(Or.inr rfl), ?_⟩
                    refine ⟨(gj_vin (by decide)), ?_⟩
                    refine ⟨(gj_vin (by decide)), ?_⟩
                    refine ⟨(gj_vin (by decide)), ?_⟩
                    refine ⟨(Or.inr rfl), ?_⟩
                    exact ⟨_, rfl, (((((((((h.1 (lgc_ge.mp c1)).2 (fun z_ => c2 (lgc_eq.mpr z_))).2 (fun z_ => c3 (lgc_le.mpr z_))).2 c4).2 (fun z_ => c11 (lgc_le.mpr z_))).2 c12).1 (lgc_gt.mp c15)).2 c16).1 (lgc_lt.mp c17))⟩
                  · refine ⟨(Or.inl rfl), ?_⟩
                    exact ⟨_, rfl, (((((((((h.1 (lgc_ge.mp c1)).2 (fun z_ => c2 (lgc_eq.mpr z_))).2 (fun z_ => c3 (lgc_le.mpr z_))).2 c4).2 (fun z_ => c11 (lgc_le.mpr z_))).2 c12).1 (lgc_gt.mp c15)).2 c16).2 (fun z_ => c17 (lgc_lt.mpr z_)))⟩
              · refine ⟨(Or.inl rfl), ?_⟩
                exact ⟨_, rfl, (((((((h.1 (lgc_ge.mp c1)).2 (fun z_ => c2 (lgc_eq.mpr z_))).2 (fun z_ => c3 (lgc_le.mpr z_))).2 c4).2 (fun z_ => c11 (lgc_le.mpr z_))).2 c12).2 (fun z_ => c15 (lgc_gt.mpr z_)))⟩
  · refine gj_goq gj_clT ok_21 [] ?_
    show ((lg_cmp a5 (i6 0)) = 0 → gj_Goes E om0 mt_21 63 [some (.ref 55), some (.int a1), some (.long a2), none, some (.long a3), none, some (.long a4), none, some (.long a5), none, some (.int (i3 (-1))), none, none] [] SI SJ (QI Q)) ∧ (¬ (lg_cmp a5 (i6 0)) = 0 → ((lg_cmp ((i3 (-1)).toInt64 * a2) (i6 0)) ≤ 0 → gj_Goes E om0 mt_21 63 [some (.ref 55), some (.int a1), some (.long a2), none, some (.long a3), none, some (.long a4), none, some (.long a5), none, some (.int (i3 (-1))), none, none] [] SI SJ (QI Q)) ∧ (¬ (lg_cmp ((i3 (-1)).toInt64 * a2) (i6 0)) ≤ 0 → (a1 ≤ (i3 1) → gj_Goes E om0 mt_21 47 [some (.ref 55), some (.int a1), some (.long a2), none, some (.long a3), none, some (.long a4), none, some (.long a5), none, some (.int (i3 (-1))), none, none] [] SI SJ (QI Q)) ∧ (¬ a1 ≤ (i3 1) → ((lg_cmp ((i3 (-1)).toInt64 * a3) (i6 0)) ≤ 0 → gj_Goes E om0 mt_21 63 [some (.ref 55), some (.int a1), some (.long a2), none, some (.long a3), none, some (.long a4), none, some (.long a5), none, some (.int (i3 (-1))), none, none] [] SI SJ (QI Q)) ∧ (¬ (lg_cmp ((i3 (-1)).toInt64 * a3) (i6 0)) ≤ 0 → (a1 ≤ (i3 2) → gj_Goes E om0 mt_21 65 [some (.ref 55), some (.int a1), some (.long a2), none, some (.long a3), none, some (.long a4), none, some (.long a5), none, some (.int (i3 (-1))), none, none] [] SI SJ (QI Q)) ∧ (¬ a1 ≤ (i3 2) → (0 < (lg_cmp ((i3 (-1)).toInt64 * a4) (i6 0)) → gj_Goes E om0 mt_21 65 [some (.ref 55), some (.int a1), some (.long a2), none, some (.long a3), none, some (.long a4), none, some (.long a5), none, some (.int (i3 (-1))), none, none] [] SI SJ (QI Q)) ∧ (¬ 0 < (lg_cmp ((i3 (-1)).toInt64 * a4) (i6 0)) → ((i3 0) = 0 ∨ (i3 0) = 1) ∧ (QI Q (some (.int (i3 0))) SI SJ)))))))
    refine ⟨fun c18 => ?_, fun c18 => ?_⟩
    · refine gj_goq gj_clT ok_21 [] ?_
      show ((i3 0) = 0 ∨ (i3 0) = 1) ∧ (QI Q (some (.int (i3 0))) SI SJ)
      refine ⟨(Or.inl rfl), ?_⟩
      exact ⟨_, rfl, ((h.2 (fun z_ => c1 (lgc_ge.mpr z_))).1 (lgc_eq.mp c18))⟩
    · refine ⟨fun c19 => ?_, fun c19 => ?_⟩
      · refine gj_goq gj_clT ok_21 [] ?_
        show ((i3 0) = 0 ∨ (i3 0) = 1) ∧ (QI Q (some (.int (i3 0))) SI SJ)
        refine ⟨(Or.inl rfl), ?_⟩
        exact ⟨_, rfl, (((h.2 (fun z_ => c1 (lgc_ge.mpr z_))).2 (fun z_ => c18 (lgc_eq.mpr z_))).1 (lgc_le.mp c19))⟩
      · refine ⟨fun c20 => ?_, fun c20 => ?_⟩
        · refine gj_goq gj_clT ok_21 [] ?_
          show (a1 ≤ (i3 2) → gj_Goes E om0 mt_21 65 [some (.ref 55), some (.int a1), some (.long a2), none, some (.long a3), none, some (.long a4), none, some (.long a5), none, some (.int (i3 (-1))), none, none] [] SI SJ (QI Q)) ∧ (¬ a1 ≤ (i3 2) → (0 < (lg_cmp ((i3 (-1)).toInt64 * a4) (i6 0)) → gj_Goes E om0 mt_21 65 [some (.ref 55), some (.int a1), some (.long a2), none, some (.long a3), none, some (.long a4), none, some (.long a5), none, some (.int (i3 (-1))), none, none] [] SI SJ (QI Q)) ∧ (¬ 0 < (lg_cmp ((i3 (-1)).toInt64 * a4) (i6 0)) → ((i3 0) = 0 ∨ (i3 0) = 1) ∧ (QI Q (some (.int (i3 0))) SI SJ)))
          refine ⟨fun c21 => ?_, fun c21 => ?_⟩
          · refine gj_goq gj_clT ok_21 [] ?_
            show ((SI 55 8) = 0 → gj_Goes E om0 mt_21 109 [some (.ref 55), some (.int a1), some (.long a2), none, some (.long a3), none, some (.long a4), none, some (.long a5), none, some (.int (i3 (-1))), some (.long ((i3 (-1)).toInt64 * ((a2 + a3) + a4))), none] [] SI SJ (QI Q)) ∧ (¬ (SI 55 8) = 0 → ((lg_cmp (((i3 (-1)).toInt64 * ((a2 + a3) + a4)) * (SJ 55 6)) ((SJ 55 7) * ((i3 (-1)).toInt64 * a5))) < 0 → gj_Goes E om0 mt_21 109 [some (.ref 55), some (.int a1), some (.long a2), none, some (.long a3), none, some (.long a4), none, some (.long a5), none, some (.int (i3 (-1))), some (.long ((i3 (-1)).toInt64 * ((a2 + a3) + a4))), none] [] SI SJ (QI Q)) ∧ (¬ (lg_cmp (((i3 (-1)).toInt64 * ((a2 + a3) + a4)) * (SJ 55 6)) ((SJ 55 7) * ((i3 (-1)).toInt64 * a5))) < 0 → ((i3 0) = 0 ∨ (i3 0) = 1) ∧ (QI Q (some (.int (i3 0))) SI SJ)))
            refine ⟨fun c22 => ?_, fun c22 => ?_⟩
            · refine gj_goq gj_clT ok_21 [] ?_
              show ((i3 1) = 0 ∨ (i3 1) = 1) ∧ (vp_in (i3 0) 3 ∧ (vp_in (i3 1) 3 ∧ (vp_in (i3 2) 3 ∧ (((i3 1) = 0 ∨ (i3 1) = 1) ∧ (QI Q (some (.int (i3 1))) (gj_u2 (gj_u2 SI 55 8 (i3 1)) 55 5 a1) (gj_w2 (gj_w2 (gj_w2 (gj_w2 (gj_w2 SJ 59 0 ((i3 (-1)).toInt64 * a2)) 59 1 ((i3 (-1)).toInt64 * a3)) 59 2 ((i3 (-1)).toInt64 * a4)) 55 6 ((i3 (-1)).toInt64 * a5)) 55 7 ((i3 (-1)).toInt64 * ((a2 + a3) + a4))))))))
              refine ⟨(Or.inr rfl), ?_⟩
              refine ⟨(gj_vin (by decide)), ?_⟩
              refine ⟨(gj_vin (by decide)), ?_⟩
              refine ⟨(gj_vin (by decide)), ?_⟩
              refine ⟨(Or.inr rfl), ?_⟩
              exact ⟨_, rfl, ((((((h.2 (fun z_ => c1 (lgc_ge.mpr z_))).2 (fun z_ => c18 (lgc_eq.mpr z_))).2 (fun z_ => c19 (lgc_le.mpr z_))).1 c20).1 c21).1 c22)⟩
            · refine ⟨fun c23 => ?_, fun c23 => ?_⟩
              · refine gj_goq gj_clT ok_21 [] ?_
                show ((i3 1) = 0 ∨ (i3 1) = 1) ∧ (vp_in (i3 0) 3 ∧ (vp_in (i3 1) 3 ∧ (vp_in (i3 2) 3 ∧ (((i3 1) = 0 ∨ (i3 1) = 1) ∧ (QI Q (some (.int (i3 1))) (gj_u2 (gj_u2 SI 55 8 (i3 1)) 55 5 a1) (gj_w2 (gj_w2 (gj_w2 (gj_w2 (gj_w2 SJ 59 0 ((i3 (-1)).toInt64 * a2)) 59 1 ((i3 (-1)).toInt64 * a3)) 59 2 ((i3 (-1)).toInt64 * a4)) 55 6 ((i3 (-1)).toInt64 * a5)) 55 7 ((i3 (-1)).toInt64 * ((a2 + a3) + a4))))))))
                refine ⟨(Or.inr rfl), ?_⟩
                refine ⟨(gj_vin (by decide)), ?_⟩
                refine ⟨(gj_vin (by decide)), ?_⟩
                refine ⟨(gj_vin (by decide)), ?_⟩
                refine ⟨(Or.inr rfl), ?_⟩
                exact ⟨_, rfl, (((((((h.2 (fun z_ => c1 (lgc_ge.mpr z_))).2 (fun z_ => c18 (lgc_eq.mpr z_))).2 (fun z_ => c19 (lgc_le.mpr z_))).1 c20).1 c21).2 c22).1 (lgc_lt.mp c23))⟩
              · refine ⟨(Or.inl rfl), ?_⟩
                exact ⟨_, rfl, (((((((h.2 (fun z_ => c1 (lgc_ge.mpr z_))).2 (fun z_ => c18 (lgc_eq.mpr z_))).2 (fun z_ => c19 (lgc_le.mpr z_))).1 c20).1 c21).2 c22).2 (fun z_ => c23 (lgc_lt.mpr z_)))⟩
          · refine ⟨fun c24 => ?_, fun c24 => ?_⟩
            · refine gj_goq gj_clT ok_21 [] ?_
              show ((SI 55 8) = 0 → gj_Goes E om0 mt_21 109 [some (.ref 55), some (.int a1), some (.long a2), none, some (.long a3), none, some (.long a4), none, some (.long a5), none, some (.int (i3 (-1))), some (.long ((i3 (-1)).toInt64 * ((a2 + a3) + a4))), none] [] SI SJ (QI Q)) ∧ (¬ (SI 55 8) = 0 → ((lg_cmp (((i3 (-1)).toInt64 * ((a2 + a3) + a4)) * (SJ 55 6)) ((SJ 55 7) * ((i3 (-1)).toInt64 * a5))) < 0 → gj_Goes E om0 mt_21 109 [some (.ref 55), some (.int a1), some (.long a2), none, some (.long a3), none, some (.long a4), none, some (.long a5), none, some (.int (i3 (-1))), some (.long ((i3 (-1)).toInt64 * ((a2 + a3) + a4))), none] [] SI SJ (QI Q)) ∧ (¬ (lg_cmp (((i3 (-1)).toInt64 * ((a2 + a3) + a4)) * (SJ 55 6)) ((SJ 55 7) * ((i3 (-1)).toInt64 * a5))) < 0 → ((i3 0) = 0 ∨ (i3 0) = 1) ∧ (QI Q (some (.int (i3 0))) SI SJ)))
              refine ⟨fun c25 => ?_, fun c25 => ?_⟩
              · refine gj_goq gj_clT ok_21 [] ?_
                show ((i3 1) = 0 ∨ (i3 1) = 1) ∧ (vp_in (i3 0) 3 ∧ (vp_in (i3 1) 3 ∧ (vp_in (i3 2) 3 ∧ (((i3 1) = 0 ∨ (i3 1) = 1) ∧ (QI Q (some (.int (i3 1))) (gj_u2 (gj_u2 SI 55 8 (i3 1)) 55 5 a1) (gj_w2 (gj_w2 (gj_w2 (gj_w2 (gj_w2 SJ 59 0 ((i3 (-1)).toInt64 * a2)) 59 1 ((i3 (-1)).toInt64 * a3)) 59 2 ((i3 (-1)).toInt64 * a4)) 55 6 ((i3 (-1)).toInt64 * a5)) 55 7 ((i3 (-1)).toInt64 * ((a2 + a3) + a4))))))))
                refine ⟨(Or.inr rfl), ?_⟩
                refine ⟨(gj_vin (by decide)), ?_⟩
                refine ⟨(gj_vin (by decide)), ?_⟩
                refine ⟨(gj_vin (by decide)), ?_⟩
                refine ⟨(Or.inr rfl), ?_⟩
                exact ⟨_, rfl, (((((((h.2 (fun z_ => c1 (lgc_ge.mpr z_))).2 (fun z_ => c18 (lgc_eq.mpr z_))).2 (fun z_ => c19 (lgc_le.mpr z_))).1 c20).2 c21).1 (lgc_gt.mp c24)).1 c25)⟩
              · refine ⟨fun c26 => ?_, fun c26 => ?_⟩
                · refine gj_goq gj_clT ok_21 [] ?_
                  show ((i3 1) = 0 ∨ (i3 1) = 1) ∧ (vp_in (i3 0) 3 ∧ (vp_in (i3 1) 3 ∧ (vp_in (i3 2) 3 ∧ (((i3 1) = 0 ∨ (i3 1) = 1) ∧ (QI Q (some (.int (i3 1))) (gj_u2 (gj_u2 SI 55 8 (i3 1)) 55 5 a1) (gj_w2 (gj_w2 (gj_w2 (gj_w2 (gj_w2 SJ 59 0 ((i3 (-1)).toInt64 * a2)) 59 1 ((i3 (-1)).toInt64 * a3)) 59 2 ((i3 (-1)).toInt64 * a4)) 55 6 ((i3 (-1)).toInt64 * a5)) 55 7 ((i3 (-1)).toInt64 * ((a2 + a3) + a4))))))))
                  refine ⟨(Or.inr rfl), ?_⟩
                  refine ⟨(gj_vin (by decide)), ?_⟩
                  refine ⟨(gj_vin (by decide)), ?_⟩
                  refine ⟨(gj_vin (by decide)), ?_⟩
                  refine ⟨(Or.inr rfl), ?_⟩
                  exact ⟨_, rfl, ((((((((h.2 (fun z_ => c1 (lgc_ge.mpr z_))).2 (fun z_ => c18 (lgc_eq.mpr z_))).2 (fun z_ => c19 (lgc_le.mpr z_))).1 c20).2 c21).1 (lgc_gt.mp c24)).2 c25).1 (lgc_lt.mp c26))⟩
                · refine ⟨(Or.inl rfl), ?_⟩
                  exact ⟨_, rfl, ((((((((h.2 (fun z_ => c1 (lgc_ge.mpr z_))).2 (fun z_ => c18 (lgc_eq.mpr z_))).2 (fun z_ => c19 (lgc_le.mpr z_))).1 c20).2 c21).1 (lgc_gt.mp c24)).2 c25).2 (fun z_ => c26 (lgc_lt.mpr z_)))⟩
            · refine ⟨(Or.inl rfl), ?_⟩
              exact ⟨_, rfl, ((((((h.2 (fun z_ => c1 (lgc_ge.mpr z_))).2 (fun z_ => c18 (lgc_eq.mpr z_))).2 (fun z_ => c19 (lgc_le.mpr z_))).1 c20).2 c21).2 (fun z_ => c24 (lgc_gt.mpr z_)))⟩
        · refine ⟨fun c27 => ?_, fun c27 => ?_⟩
          · refine gj_goq gj_clT ok_21 [] ?_
            show ((i3 0) = 0 ∨ (i3 0) = 1) ∧ (QI Q (some (.int (i3 0))) SI SJ)
            refine ⟨(Or.inl rfl), ?_⟩
            exact ⟨_, rfl, (((((h.2 (fun z_ => c1 (lgc_ge.mpr z_))).2 (fun z_ => c18 (lgc_eq.mpr z_))).2 (fun z_ => c19 (lgc_le.mpr z_))).2 c20).1 (lgc_le.mp c27))⟩
          · refine ⟨fun c28 => ?_, fun c28 => ?_⟩
            · refine gj_goq gj_clT ok_21 [] ?_
              show ((SI 55 8) = 0 → gj_Goes E om0 mt_21 109 [some (.ref 55), some (.int a1), some (.long a2), none, some (.long a3), none, some (.long a4), none, some (.long a5), none, some (.int (i3 (-1))), some (.long ((i3 (-1)).toInt64 * ((a2 + a3) + a4))), none] [] SI SJ (QI Q)) ∧ (¬ (SI 55 8) = 0 → ((lg_cmp (((i3 (-1)).toInt64 * ((a2 + a3) + a4)) * (SJ 55 6)) ((SJ 55 7) * ((i3 (-1)).toInt64 * a5))) < 0 → gj_Goes E om0 mt_21 109 [some (.ref 55), some (.int a1), some (.long a2), none, some (.long a3), none, some (.long a4), none, some (.long a5), none, some (.int (i3 (-1))), some (.long ((i3 (-1)).toInt64 * ((a2 + a3) + a4))), none] [] SI SJ (QI Q)) ∧ (¬ (lg_cmp (((i3 (-1)).toInt64 * ((a2 + a3) + a4)) * (SJ 55 6)) ((SJ 55 7) * ((i3 (-1)).toInt64 * a5))) < 0 → ((i3 0) = 0 ∨ (i3 0) = 1) ∧ (QI Q (some (.int (i3 0))) SI SJ)))
              refine ⟨fun c29 => ?_, fun c29 => ?_⟩
              · refine gj_goq gj_clT ok_21 [] ?_
                show ((i3 1) = 0 ∨ (i3 1) = 1) ∧ (vp_in (i3 0) 3 ∧ (vp_in (i3 1) 3 ∧ (vp_in (i3 2) 3 ∧ (((i3 1) = 0 ∨ (i3 1) = 1) ∧ (QI Q (some (.int (i3 1))) (gj_u2 (gj_u2 SI 55 8 (i3 1)) 55 5 a1) (gj_w2 (gj_w2 (gj_w2 (gj_w2 (gj_w2 SJ 59 0 ((i3 (-1)).toInt64 * a2)) 59 1 ((i3 (-1)).toInt64 * a3)) 59 2 ((i3 (-1)).toInt64 * a4)) 55 6 ((i3 (-1)).toInt64 * a5)) 55 7 ((i3 (-1)).toInt64 * ((a2 + a3) + a4))))))))
                refine ⟨(Or.inr rfl), ?_⟩
                refine ⟨(gj_vin (by decide)), ?_⟩
                refine ⟨(gj_vin (by decide)), ?_⟩
                refine ⟨(gj_vin (by decide)), ?_⟩
                refine ⟨(Or.inr rfl), ?_⟩
                exact ⟨_, rfl, (((((((h.2 (fun z_ => c1 (lgc_ge.mpr z_))).2 (fun z_ => c18 (lgc_eq.mpr z_))).2 (fun z_ => c19 (lgc_le.mpr z_))).2 c20).2 (fun z_ => c27 (lgc_le.mpr z_))).1 c28).1 c29)⟩
              · refine ⟨fun c30 => ?_, fun c30 => ?_⟩
                · refine gj_goq gj_clT ok_21 [] ?_
                  show ((i3 1) = 0 ∨ (i3 1) = 1) ∧ (vp_in (i3 0) 3 ∧ (vp_in (i3 1) 3 ∧ (vp_in (i3 2) 3 ∧ (((i3 1) = 0 ∨ (i3 1) = 1) ∧ (QI Q (some (.int (i3 1))) (gj_u2 (gj_u2 SI 55 8 (i3 1)) 55 5 a1) (gj_w2 (gj_w2 (gj_w2 (gj_w2 (gj_w2 SJ 59 0 ((i3 (-1)).toInt64 * a2)) 59 1 ((i3 (-1)).toInt64 * a3)) 59 2 ((i3 (-1)).toInt64 * a4)) 55 6 ((i3 (-1)).toInt64 * a5)) 55 7 ((i3 (-1)).toInt64 * ((a2 + a3) + a4))))))))
                  refine ⟨(Or.inr rfl), ?_⟩
                  refine ⟨(gj_vin (by decide)), ?_⟩
                  refine ⟨(gj_vin (by decide)), ?_⟩
                  refine ⟨(gj_vin (by decide)), ?_⟩
                  refine ⟨(Or.inr rfl), ?_⟩
                  exact ⟨_, rfl, ((((((((h.2 (fun z_ => c1 (lgc_ge.mpr z_))).2 (fun z_ => c18 (lgc_eq.mpr z_))).2 (fun z_ => c19 (lgc_le.mpr z_))).2 c20).2 (fun z_ => c27 (lgc_le.mpr z_))).1 c28).2 c29).1 (lgc_lt.mp c30))⟩
                · refine ⟨(Or.inl rfl), ?_⟩
                  exact ⟨_, rfl, ((((((((h.2 (fun z_ => c1 (lgc_ge.mpr z_))).2 (fun z_ => c18 (lgc_eq.mpr z_))).2 (fun z_ => c19 (lgc_le.mpr z_))).2 c20).2 (fun z_ => c27 (lgc_le.mpr z_))).1 c28).2 c29).2 (fun z_ => c30 (lgc_lt.mpr z_)))⟩
            · refine ⟨fun c31 => ?_, fun c31 => ?_⟩
              · refine gj_goq gj_clT ok_21 [] ?_
                show ((SI 55 8) = 0 → gj_Goes E om0 mt_21 109 [some (.ref 55), some (.int a1), some (.long a2), none, some (.long a3), none, some (.long a4), none, some (.long a5), none, some (.int (i3 (-1))), some (.long ((i3 (-1)).toInt64 * ((a2 + a3) + a4))), none] [] SI SJ (QI Q)) ∧ (¬ (SI 55 8) = 0 → ((lg_cmp (((i3 (-1)).toInt64 * ((a2 + a3) + a4)) * (SJ 55 6)) ((SJ 55 7) * ((i3 (-1)).toInt64 * a5))) < 0 → gj_Goes E om0 mt_21 109 [some (.ref 55), some (.int a1), some (.long a2), none, some (.long a3), none, some (.long a4), none, some (.long a5), none, some (.int (i3 (-1))), some (.long ((i3 (-1)).toInt64 * ((a2 + a3) + a4))), none] [] SI SJ (QI Q)) ∧ (¬ (lg_cmp (((i3 (-1)).toInt64 * ((a2 + a3) + a4)) * (SJ 55 6)) ((SJ 55 7) * ((i3 (-1)).toInt64 * a5))) < 0 → ((i3 0) = 0 ∨ (i3 0) = 1) ∧ (QI Q (some (.int (i3 0))) SI SJ)))
                refine ⟨fun c32 => ?_, fun c32 => ?_⟩
                · refine gj_goq gj_clT ok_21 [] ?_
                  show ((i3 1) = 0 ∨ (i3 1) = 1) ∧ (vp_in (i3 0) 3 ∧ (vp_in (i3 1) 3 ∧ (vp_in (i3 2) 3 ∧ (((i3 1) = 0 ∨ (i3 1) = 1) ∧ (QI Q (some (.int (i3 1))) (gj_u2 (gj_u2 SI 55 8 (i3 1)) 55 5 a1) (gj_w2 (gj_w2 (gj_w2 (gj_w2 (gj_w2 SJ 59 0 ((i3 (-1)).toInt64 * a2)) 59 1 ((i3 (-1)).toInt64 * a3)) 59 2 ((i3 (-1)).toInt64 * a4)) 55 6 ((i3 (-1)).toInt64 * a5)) 55 7 ((i3 (-1)).toInt64 * ((a2 + a3) + a4))))))))
                  refine ⟨(Or.inr rfl), ?_⟩
                  refine ⟨(gj_vin (by decide)), ?_⟩
                  refine ⟨(gj_vin (by decide)), ?_⟩
                  refine ⟨(gj_vin (by decide)), ?_⟩
                  refine ⟨(Or.inr rfl), ?_⟩
                  exact ⟨_, rfl, ((((((((h.2 (fun z_ => c1 (lgc_ge.mpr z_))).2 (fun z_ => c18 (lgc_eq.mpr z_))).2 (fun z_ => c19 (lgc_le.mpr z_))).2 c20).2 (fun z_ => c27 (lgc_le.mpr z_))).2 c28).1 (lgc_gt.mp c31)).1 c32)⟩
                · refine ⟨fun c33 => ?_, fun c33 => ?_⟩
                  · refine gj_goq gj_clT ok_21 [] ?_
                    show ((i3 1) = 0 ∨ (i3 1) = 1) ∧ (vp_in (i3 0) 3 ∧ (vp_in (i3 1) 3 ∧ (vp_in (i3 2) 3 ∧ (((i3 1) = 0 ∨ (i3 1) = 1) ∧ (QI Q (some (.int (i3 1))) (gj_u2 (gj_u2 SI 55 8 (i3 1)) 55 5 a1) (gj_w2 (gj_w2 (gj_w2 (gj_w2 (gj_w2 SJ 59 0 ((i3 (-1)).toInt64 * a2)) 59 1 ((i3 (-1)).toInt64 * a3)) 59 2 ((i3 (-1)).toInt64 * a4)) 55 6 ((i3 (-1)).toInt64 * a5)) 55 7 ((i3 (-1)).toInt64 * ((a2 + a3) + a4))))))))
                    refine ⟨(Or.inr rfl), ?_⟩
                    refine ⟨(gj_vin (by decide)), ?_⟩
                    refine ⟨(gj_vin (by decide)), ?_⟩
                    refine ⟨(gj_vin (by decide)), ?_⟩
                    refine ⟨(Or.inr rfl), ?_⟩
                    exact ⟨_, rfl, (((((((((h.2 (fun z_ => c1 (lgc_ge.mpr z_))).2 (fun z_ => c18 (lgc_eq.mpr z_))).2 (fun z_ => c19 (lgc_le.mpr z_))).2 c20).2 (fun z_ => c27 (lgc_le.mpr z_))).2 c28).1 (lgc_gt.mp c31)).2 c32).1 (lgc_lt.mp c33))⟩
                  · refine ⟨(Or.inl rfl), ?_⟩
                    exact ⟨_, rfl, (((((((((h.2 (fun z_ => c1 (lgc_ge.mpr z_))).2 (fun z_ => c18 (lgc_eq.mpr z_))).2 (fun z_ => c19 (lgc_le.mpr z_))).2 c20).2 (fun z_ => c27 (lgc_le.mpr z_))).2 c28).1 (lgc_gt.mp c31)).2 c32).2 (fun z_ => c33 (lgc_lt.mpr z_)))⟩
              · refine ⟨(Or.inl rfl), ?_⟩
                exact ⟨_, rfl, (((((((h.2 (fun z_ => c1 (lgc_ge.mpr z_))).2 (fun z_ => c18 (lgc_eq.mpr z_))).2 (fun z_ => c19 (lgc_le.mpr z_))).2 c20).2 (fun z_ => c27 (lgc_le.mpr z_))).2 c28).2 (fun z_ => c31 (lgc_gt.mpr z_)))⟩
set_option maxRecDepth 20000 in
/-- GraspJudge$Hold.name -/
theorem st_22 {E : gj_E} {Q : gj_I → gj_J → Prop} (a1 : Int32) (a2 : Int32) (a3 : Int32) (SI : gj_I) (SJ : gj_J) (h : Q (gj_u2 (gj_u2 (gj_u2 SI 58 0 a1) 58 1 a2) 58 2 a3) SJ) : DoV E 22 [(.ref 55), (.int a1), (.int a2), (.int a3)] SI SJ Q := by
  refine gj_start (M := mt_22) ok_22 (Nat.le_of_ble_eq_true rfl) ?_
  refine gj_goq gj_clT ok_22 [] ?_
  show vp_in (i3 0) 3 ∧ (vp_in (i3 1) 3 ∧ (vp_in (i3 2) 3 ∧ (QV Q none (gj_u2 (gj_u2 (gj_u2 SI 58 0 a1) 58 1 a2) 58 2 a3) SJ)))
  refine ⟨(gj_vin (by decide)), ?_⟩
  refine ⟨(gj_vin (by decide)), ?_⟩
  refine ⟨(gj_vin (by decide)), ?_⟩
  exact ⟨rfl, h⟩
set_option maxRecDepth 20000 in
/-- GraspJudge$Release.seek -/
theorem st_44 {E : gj_E} {Q : gj_I → gj_J → Prop} (a1 : Int32) (SI : gj_I) (SJ : gj_J) (h : (¬ a1 = (i3 3) → (¬ a1 = (i3 2) → DoV E 48 [(.ref 61), (.ref 42)] (gj_u2 SI 61 3 (i3 0)) SJ (fun SI2 SJ2 => Q SI2 SJ2)) ∧ (a1 = (i3 2) → DoV E 46 [(.ref 61), (.ref 42)] (gj_u2 SI 61 3 (i3 0)) SJ (fun SI4 SJ4 => Q SI4 SJ4))) ∧ (a1 = (i3 3) → DoV E 45 [(.ref 61), (.ref 42)] (gj_u2 SI 61 3 (i3 0)) SJ (fun SI6 SJ6 => Q SI6 SJ6))) : DoV E 44 [(.ref 61), (.ref 42), (.int a1)] SI SJ Q := by
  refine gj_start (M := mt_44) ok_44 (Nat.le_of_ble_eq_true rfl) ?_
  refine gj_goq gj_clT ok_44 [15, 28, 36] ?_
  show (¬ a1 = (i3 3) → gj_Goes E om0 mt_44 18 [some (.ref 61), some (.ref 42), some (.int a1)] [] (gj_u2 SI 61 3 (i3 0)) SJ (QV Q)) ∧ (a1 = (i3 3) → gj_Do E om0 (gj_mt 45) [(.ref 61), (.ref 42)] (gj_u2 SI 61 3 (i3 0)) SJ _)
  refine ⟨fun c1 => ?_, fun c1 => ?_⟩
  · refine gj_goq gj_clT ok_44 [15, 28, 36] ?_
    show (¬ a1 = (i3 2) → gj_Goes E om0 mt_44 31 [some (.ref 61), some (.ref 42), some (.int a1)] [] (gj_u2 SI 61 3 (i3 0)) SJ (QV Q)) ∧ (a1 = (i3 2) → gj_Do E om0 (gj_mt 46) [(.ref 61), (.ref 42)] (gj_u2 SI 61 3 (i3 0)) SJ _)
    refine ⟨fun c2 => ?_, fun c2 => ?_⟩
    · refine gj_goq gj_clT ok_44 [15, 28, 36] ?_
      show gj_Do E om0 (gj_mt 48) [(.ref 61), (.ref 42)] (gj_u2 SI 61 3 (i3 0)) SJ _
      refine gj_Do.mono ((h.1 c1).1 c2) (fun v_ SI2 SJ2 h_ => ?_)
      obtain ⟨rfl, q3⟩ := h_
      show gj_Goes E om0 mt_44 36 [some (.ref 61), some (.ref 42), some (.int a1)] [] SI2 SJ2 (QV Q)
      refine gj_goq gj_clT ok_44 [15, 28, 36] ?_
      show QV Q none SI2 SJ2
      exact ⟨rfl, q3⟩
    · refine gj_Do.mono ((h.1 c1).2 c2) (fun v_ SI4 SJ4 h_ => ?_)
      obtain ⟨rfl, q4⟩ := h_
      show gj_Goes E om0 mt_44 28 [some (.ref 61), some (.ref 42), some (.int a1)] [] SI4 SJ4 (QV Q)
      refine gj_goq gj_clT ok_44 [15, 28, 36] ?_
      show gj_Goes E om0 mt_44 36 [some (.ref 61), some (.ref 42), some (.int a1)] [] SI4 SJ4 (QV Q)
      refine gj_goq gj_clT ok_44 [15, 28, 36] ?_
      show QV Q none SI4 SJ4
      exact ⟨rfl, q4⟩
  · refine gj_Do.mono (h.2 c1) (fun v_ SI6 SJ6 h_ => ?_)
    obtain ⟨rfl, q5⟩ := h_
    show gj_Goes E om0 mt_44 15 [some (.ref 61), some (.ref 42), some (.int a1)] [] SI6 SJ6 (QV Q)
    refine gj_goq gj_clT ok_44 [15, 28, 36] ?_
    show gj_Goes E om0 mt_44 36 [some (.ref 61), some (.ref 42), some (.int a1)] [] SI6 SJ6 (QV Q)
    refine gj_goq gj_clT ok_44 [15, 28, 36] ?_
    show QV Q none SI6 SJ6
    exact ⟨rfl, q5⟩
set_option maxRecDepth 20000 in
/-- GraspJudge$Release.seekAll -/
theorem st_45 {E : gj_E} {Q : gj_I → gj_J → Prop} (SI : gj_I) (SJ : gj_J) (h : GoV E mt_45 4 [some (.ref 61), some (.ref 42), some (.int (i3 0)), some (.int (i3 0)), none, none] SI SJ Q) : DoV E 45 [(.ref 61), (.ref 42)] SI SJ Q := by
  refine gj_start (M := mt_45) ok_45 (Nat.le_of_ble_eq_true rfl) ?_
  refine gj_goq gj_clT ok_45 [4, 17, 32, 40, 88, 96, 102] ?_
  show gj_Goes E om0 mt_45 4 [some (.ref 61), some (.ref 42), some (.int (i3 0)), some (.int (i3 0)), none, none] [] SI SJ (QV Q)
  exact h
set_option maxRecDepth 20000 in
theorem lp_45_4 {E : gj_E} {Q : gj_I → gj_J → Prop} (x2 : Int32) (x3 : Int32) (SI : gj_I) (SJ : gj_J) (h : ((SI 42 9) ≤ x3 → Q SI SJ) ∧ (¬ (SI 42 9) ≤ x3 → GoV E mt_45 17 [some (.ref 61), some (.ref 42), some (.int x2), some (.int x3), some (.int (x3 + (i3 1))), none] SI SJ Q)) : GoV E mt_45 4 [some (.ref 61), some (.ref 42), some (.int x2), some (.int x3), none, none] SI SJ Q := by
  refine gj_goq gj_clT ok_45 [4, 17, 32, 40, 88, 96, 102] ?_
  show ((SI 42 9) ≤ x3 → gj_Goes E om0 mt_45 114 [some (.ref 61), some (.ref 42), some (.int x2), some (.int x3), none, none] [] SI SJ (QV Q)) ∧ (¬ (SI 42 9) ≤ x3 → gj_Goes E om0 mt_45 17 [some (.ref 61), some (.ref 42), some (.int x2), some (.int x3), some (.int (x3 + (i3 1))), none] [] SI SJ (QV Q))
  refine ⟨fun c1 => ?_, fun c1 => ?_⟩
  · refine gj_goq gj_clT ok_45 [4, 17, 32, 40, 88, 96, 102] ?_
    show QV Q none SI SJ
    exact ⟨rfl, (h.1 c1)⟩
  · exact (h.2 c1)
set_option maxRecDepth 20000 in
theorem lp_45_17 {E : gj_E} {Q : gj_I → gj_J → Prop} (x2 : Int32) (x3 : Int32) (x4 : Int32) (SI : gj_I) (SJ : gj_J) (h : ((SI 42 9) ≤ x4 → GoV E mt_45 4 [some (.ref 61), some (.ref 42), some (.int x2), some (.int (x3 + (i3 1))), none, none] SI SJ Q) ∧ (¬ (SI 42 9) ≤ x4 → DoI E 2 [(.int x3), (.int x4)] SI SJ (fun r1 SI2 SJ2 => DoI E 8 [(.ref 42), (.int r1)] SI2 SJ2 (fun r3 SI4 SJ4 => (r3 = 0 → GoV E mt_45 17 [some (.ref 61), some (.ref 42), some (.int x2), some (.int x3), some (.int (x4 + (i3 1))), none] SI4 SJ4 Q) ∧ (¬ r3 = 0 → vp_in r1 91 ∧ (((SI4 50 (gj_n r1)) = 0 → (¬ (SI4 50 (gj_n r1)) = 0 → DoV E 49 [(.ref 61), (.ref 42), (.int r1), (.int (i3 (-1)))] SI4 SJ4 (fun SI6 SJ6 => (¬ x2 = 0 → DoV E 52 [(.ref 61)] SI6 SJ6 (fun SI8 SJ8 => GoV E mt_45 17 [some (.ref 61), some (.ref 42), some (.int x2), some (.int x3), some (.int (x4 + (i3 1))), none] SI8 SJ8 Q)) ∧ (x2 = 0 → DoV E 50 [(.ref 61)] SI6 SJ6 (fun SI10 SJ10 => DoV E 52 [(.ref 61)] SI10 SJ10 (fun SI12 SJ12 => GoV E mt_45 17 [some (.ref 61), some (.ref 42), some (.int (i3 1)), some (.int x3), some (.int (x4 + (i3 1))), none] SI12 SJ12 Q))))) ∧ ((SI4 50 (gj_n r1)) = 0 → DoV E 49 [(.ref 61), (.ref 42), (.int r1), (.int (i3 1))] SI4 SJ4 (fun SI14 SJ14 => (¬ x2 = 0 → DoV E 52 [(.ref 61)] SI14 SJ14 (fun SI16 SJ16 => GoV E mt_45 17 [some (.ref 61), some (.ref 42), some (.int x2), some (.int x3), some (.int (x4 + (i3 1))), none] SI16 SJ16 Q)) ∧ (x2 = 0 → DoV E 50 [(.ref 61)] SI14 SJ14 (fun SI18 SJ18 => DoV E 52 [(.ref 61)] SI18 SJ18 (fun SI20 SJ20 => GoV E mt_45 17 [some (.ref 61), some (.ref 42), some (.int (i3 1)), some (.int x3), some (.int (x4 + (i3 1))), none] SI20 SJ20 Q)))))) ∧ (¬ (SI4 50 (gj_n r1)) = 0 → ((SI4 51 (gj_n r1)) = 0 → (¬ (SI4 50 (gj_n r1)) = 0 → DoV E 49 [(.ref 61), (.ref 42), (.int r1), (.int (i3 (-1)))] SI4 SJ4 (fun SI22 SJ22 => (¬ x2 = 0 → DoV E 52 [(.ref 61)] SI22 SJ22 (fun SI24 SJ24 => GoV E mt_45 17 [some (.ref 61), some (.ref 42), some (.int x2), some (.int x3), some (.int (x4 + (i3 1))), none] SI24 SJ24 Q)) ∧ (x2 = 0 → DoV E 50 [(.ref 61)] SI22 SJ22 (fun SI26 SJ26 => DoV E 52 [(.ref 61)] SI26 SJ26 (fun SI28 SJ28 => GoV E mt_45 17 [some (.ref 61), some (.ref 42), some (.int (i3 1)), some (.int x3), some (.int (x4 + (i3 1))), none] SI28 SJ28 Q))))) ∧ ((SI4 50 (gj_n r1)) = 0 → DoV E 49 [(.ref 61), (.ref 42), (.int r1), (.int (i3 1))] SI4 SJ4 (fun SI30 SJ30 => (¬ x2 = 0 → DoV E 52 [(.ref 61)] SI30 SJ30 (fun SI32 SJ32 => GoV E mt_45 17 [some (.ref 61), some (.ref 42), some (.int x2), some (.int x3), some (.int (x4 + (i3 1))), none] SI32 SJ32 Q)) ∧ (x2 = 0 → DoV E 50 [(.ref 61)] SI30 SJ30 (fun SI34 SJ34 => DoV E 52 [(.ref 61)] SI34 SJ34 (fun SI36 SJ36 => GoV E mt_45 17 [some (.ref 61), some (.ref 42), some (.int (i3 1)), some (.int x3), some (.int (x4 + (i3 1))), none] SI36 SJ36 Q)))))) ∧ (¬ (SI4 51 (gj_n r1)) = 0 → GoV E mt_45 17 [some (.ref 61), some (.ref 42), some (.int x2), some (.int x3), some (.int (x4 + (i3 1))), none] SI4 SJ4 Q)))))))) : GoV E mt_45 17 [some (.ref 61), some (.ref 42), some (.int x2), some (.int x3), some (.int x4), none] SI SJ Q := by
  refine gj_goq gj_clT ok_45 [4, 17, 32, 40, 88, 96, 102] ?_
  show ((SI 42 9) ≤ x4 → gj_Goes E om0 mt_45 108 [some (.ref 61), some (.ref 42), some (.int x2), some (.int x3), some (.int x4), none] [] SI SJ (QV Q)) ∧ (¬ (SI 42 9) ≤ x4 → gj_Do E om0 (gj_mt 2) [(.int x3), (.int x4)] SI SJ _)
  refine ⟨fun c1 => ?_, fun c1 => ?_⟩
  · refine gj_goq gj_clT ok_45 [4, 17, 32, 40, 88, 96, 102] ?_
    show gj_Goes E om0 mt_45 4 [some (.ref 61), some (.ref 42), some (.int x2), some (.int (x3 + (i3 1))), some (.int x4), none] [] SI SJ (QV Q)
    exact gj_fh (h.1 c1) (And.intro (Or.inr rfl) (And.intro (Or.inr rfl) (And.intro (Or.inr rfl) (And.intro (Or.inr rfl) (And.intro (Or.inl rfl) (And.intro (Or.inl rfl) trivial))))))
  · refine gj_Do.mono (h.2 c1) (fun v_ SI2 SJ2 h_ => ?_)
    obtain ⟨r1, rfl, q2⟩ := h_
    show gj_Goes E om0 mt_45 32 [some (.ref 61), some (.ref 42), some (.int x2), some (.int x3), some (.int x4), none] [(.int r1)] SI2 SJ2 (QV Q)
    refine gj_goq gj_clT ok_45 [4, 17, 32, 40, 88, 96, 102] ?_
    show gj_Do E om0 (gj_mt 8) [(.ref 42), (.int r1)] SI2 SJ2 _
    refine gj_Do.mono q2 (fun v_ SI4 SJ4 h_ => ?_)
    obtain ⟨r3, rfl, q3⟩ := h_
    show gj_Goes E om0 mt_45 40 [some (.ref 61), some (.ref 42), some (.int x2), some (.int x3), some (.int x4), some (.int r1)] [(.int r3)] SI4 SJ4 (QV Q)
    refine gj_goq gj_clT ok_45 [4, 17, 32, 40, 88, 96, 102] ?_
    show (r3 = 0 → gj_Goes E om0 mt_45 102 [some (.ref 61), some (.ref 42), some (.int x2), some (.int x3), some (.int x4), some (.int r1)] [] SI4 SJ4 (QV Q)) ∧ (¬ r3 = 0 → vp_in r1 91 ∧ (((SI4 50 (gj_n r1)) = 0 → gj_Goes E om0 mt_45 66 [some (.ref 61), some (.ref 42), some (.int x2), some (.int x3), some (.int x4), some (.int r1)] [] SI4 SJ4 (QV Q)) ∧ (¬ (SI4 50 (gj_n r1)) = 0 → vp_in r1 91 ∧ (((SI4 51 (gj_n r1)) = 0 → gj_Goes E om0 mt_45 66 [some (.ref 61), some (.ref 42), some (.int x2), some (.int x3), some (.int x4), some (.int r1)] [] SI4 SJ4 (QV Q)) ∧ (¬ (SI4 51 (gj_n r1)) = 0 → gj_Goes E om0 mt_45 102 [some (.ref 61), some (.ref 42), some (.int x2), some (.int x3), some (.int x4), some (.int r1)] [] SI4 SJ4 (QV Q))))))
    refine ⟨fun c4 => ?_, fun c4 => ?_⟩
    · refine gj_goq gj_clT ok_45 [4, 17, 32, 40, 88, 96, 102] ?_
      show gj_Goes E om0 mt_45 17 [some (.ref 61), some (.ref 42), some (.int x2), some (.int x3), some (.int (x4 + (i3 1))), some (.int r1)] [] SI4 SJ4 (QV Q)
      exact gj_fh (q3.1 c4) (And.intro (Or.inr rfl) (And.intro (Or.inr rfl) (And.intro (Or.inr rfl) (And.intro (Or.inr rfl) (And.intro (Or.inr rfl) (And.intro (Or.inl rfl) trivial))))))
    · have k5 := (q3.2 c4).1
      refine ⟨k5, ?_⟩
      refine ⟨fun c6 => ?_, fun c6 => ?_⟩
      · refine gj_goq gj_clT ok_45 [4, 17, 32, 40, 88, 96, 102] ?_
        show vp_in r1 91 ∧ ((¬ (SI4 50 (gj_n r1)) = 0 → gj_Goes E om0 mt_45 84 [some (.ref 61), some (.ref 42), some (.int x2), some (.int x3), some (.int x4), some (.int r1)] [(.int r1), (.ref 42), (.ref 61)] SI4 SJ4 (QV Q)) ∧ ((SI4 50 (gj_n r1)) = 0 → gj_Goes E om0 mt_45 85 [some (.ref 61), some (.ref 42), some (.int x2), some (.int x3), some (.int x4), some (.int r1)] [(.int (i3 1)), (.int r1), (.ref 42), (.ref 61)] SI4 SJ4 (QV Q)))
        refine ⟨k5, ?_⟩
        refine ⟨fun c7 => ?_, fun c7 => ?_⟩
        · refine gj_goq gj_clT ok_45 [4, 17, 32, 40, 88, 96, 102] ?_
          show gj_Do E om0 (gj_mt 49) [(.ref 61), (.ref 42), (.int r1), (.int (i3 (-1)))] SI4 SJ4 _
          refine gj_Do.mono (((q3.2 c4).2.1 c6).1 c7) (fun v_ SI6 SJ6 h_ => ?_)
          obtain ⟨rfl, q8⟩ := h_
          show gj_Goes E om0 mt_45 88 [some (.ref 61), some (.ref 42), some (.int x2), some (.int x3), some (.int x4), some (.int r1)] [] SI6 SJ6 (QV Q)
          refine gj_goq gj_clT ok_45 [4, 17, 32, 40, 88, 96, 102] ?_
          show (¬ x2 = 0 → gj_Goes E om0 mt_45 98 [some (.ref 61), some (.ref 42), some (.int x2), some (.int x3), some (.int x4), some (.int r1)] [] SI6 SJ6 (QV Q)) ∧ (x2 = 0 → gj_Do E om0 (gj_mt 50) [(.ref 61)] SI6 SJ6 _)
          refine ⟨fun c9 => ?_, fun c9 => ?_⟩
          · refine gj_goq gj_clT ok_45 [4, 17, 32, 40, 88, 96, 102] ?_
            show gj_Do E om0 (gj_mt 52) [(.ref 61)] SI6 SJ6 _
            refine gj_Do.mono (q8.1 c9) (fun v_ SI8 SJ8 h_ => ?_)
            obtain ⟨rfl, q10⟩ := h_
            show gj_Goes E om0 mt_45 102 [some (.ref 61), some (.ref 42), some (.int x2), some (.int x3), some (.int x4), some (.int r1)] [] SI8 SJ8 (QV Q)
            refine gj_goq gj_clT ok_45 [4, 17, 32, 40, 88, 96, 102] ?_
            show gj_Goes E om0 mt_45 17 [some (.ref 61), some (.ref 42), some (.int x2), some (.int x3), some (.int (x4 + (i3 1))), some (.int r1)] [] SI8 SJ8 (QV Q)
            exact gj_fh q10 (And.intro (Or.inr rfl) (And.intro (Or.inr rfl) (And.intro (Or.inr rfl) (And.intro (Or.inr rfl) (And.intro (Or.inr rfl) (And.intro (Or.inl rfl) trivial))))))
          · refine gj_Do.mono (q8.2 c9) (fun v_ SI10 SJ10 h_ => ?_)
            obtain ⟨rfl, q11⟩ := h_
            show gj_Goes E om0 mt_45 96 [some (.ref 61), some (.ref 42), some (.int x2), some (.int x3), some (.int x4), some (.int r1)] [] SI10 SJ10 (QV Q)
            refine gj_goq gj_clT ok_45 [4, 17, 32, 40, 88, 96, 102] ?_
            show gj_Do E om0 (gj_mt 52) [(.ref 61)] SI10 SJ10 _
            refine gj_Do.mono q11 (fun v_ SI12 SJ12 h_ => ?_)
            obtain ⟨rfl, q12⟩ := h_
            show gj_Goes E om0 mt_45 102 [some (.ref 61), some (.ref 42), some (.int (i3 1)), some (.int x3), some (.int x4), some (.int r1)] [] SI12 SJ12 (QV Q)
            refine gj_goq gj_clT ok_45 [4, 17, 32, 40, 88, 96, 102] ?_
            show gj_Goes E om0 mt_45 17 [some (.ref 61), some (.ref 42), some (.int (i3 1)), some (.int x3), some (.int (x4 + (i3 1))), some (.int r1)] [] SI12 SJ12 (QV Q)
            exact gj_fh q12 (And.intro (Or.inr rfl) (And.intro (Or.inr rfl) (And.intro (Or.inr rfl) (And.intro (Or.inr rfl) (And.intro (Or.inr rfl) (And.intro (Or.inl rfl) trivial))))))
        · refine gj_goq gj_clT ok_45 [4, 17, 32, 40, 88, 96, 102] ?_
          show gj_Do E om0 (gj_mt 49) [(.ref 61), (.ref 42), (.int r1), (.int (i3 1))] SI4 SJ4 _
          refine gj_Do.mono (((q3.2 c4).2.1 c6).2 c7) (fun v_ SI14 SJ14 h_ => ?_)
          obtain ⟨rfl, q13⟩ := h_
          show gj_Goes E om0 mt_45 88 [some (.ref 61), some (.ref 42), some (.int x2), some (.int x3), some (.int x4), some (.int r1)] [] SI14 SJ14 (QV Q)
          refine gj_goq gj_clT ok_45 [4, 17, 32, 40, 88, 96, 102] ?_
          show (¬ x2 = 0 → gj_Goes E om0 mt_45 98 [some (.ref 61), some (.ref 42), some (.int x2), some (.int x3), some (.int x4), some (.int r1)] [] SI14 SJ14 (QV Q)) ∧ (x2 = 0 → gj_Do E om0 (gj_mt 50) [(.ref 61)] SI14 SJ14 _)
          refine ⟨fun c14 => ?_, fun c14 => ?_⟩
          · refine gj_goq gj_clT ok_45 [4, 17, 32, 40, 88, 96, 102] ?_
            show gj_Do E om0 (gj_mt 52) [(.ref 61)] SI14 SJ14 _
            refine gj_Do.mono (q13.1 c14) (fun v_ SI16 SJ16 h_ => ?_)
            obtain ⟨rfl, q15⟩ := h_
            show gj_Goes E om0 mt_45 102 [some (.ref 61), some (.ref 42), some (.int x2), some (.int x3), some (.int x4), some (.int r1)] [] SI16 SJ16 (QV Q)
            refine gj_goq gj_clT ok_45 [4, 17, 32, 40, 88, 96, 102] ?_
            show gj_Goes E om0 mt_45 17 [some (.ref 61), some (.ref 42), some (.int x2), some (.int x3), some (.int (x4 + (i3 1))), some (.int r1)] [] SI16 SJ16 (QV Q)
            exact gj_fh q15 (And.intro (Or.inr rfl) (And.intro (Or.inr rfl) (And.intro (Or.inr rfl) (And.intro (Or.inr rfl) (And.intro (Or.inr rfl) (And.intro (Or.inl rfl) trivial))))))
          · refine gj_Do.mono (q13.2 c14) (fun v_ SI18 SJ18 h_ => ?_)
            obtain ⟨rfl, q16⟩ := h_
            show gj_Goes E om0 mt_45 96 [some (.ref 61), some (.ref 42), some (.int x2), some (.int x3), some (.int x4), some (.int r1)] [] SI18 SJ18 (QV Q)
            refine gj_goq gj_clT ok_45 [4, 17, 32, 40, 88, 96, 102] ?_
            show gj_Do E om0 (gj_mt 52) [(.ref 61)] SI18 SJ18 _
            refine gj_Do.mono q16 (fun v_ SI20 SJ20 h_ => ?_)
            obtain ⟨rfl, q17⟩ := h_
            show gj_Goes E om0 mt_45 102 [some (.ref 61), some (.ref 42), some (.int (i3 1)), some (.int x3), some (.int x4), some (.int r1)] [] SI20 SJ20 (QV Q)
            refine gj_goq gj_clT ok_45 [4, 17, 32, 40, 88, 96, 102] ?_
            show gj_Goes E om0 mt_45 17 [some (.ref 61), some (.ref 42), some (.int (i3 1)), some (.int x3), some (.int (x4 + (i3 1))), some (.int r1)] [] SI20 SJ20 (QV Q)
            exact gj_fh q17 (And.intro (Or.inr rfl) (And.intro (Or.inr rfl) (And.intro (Or.inr rfl) (And.intro (Or.inr rfl) (And.intro (Or.inr rfl) (And.intro (Or.inl rfl) trivial))))))
      · refine ⟨k5, ?_⟩
        refine ⟨fun c18 => ?_, fun c18 => ?_⟩
        · refine gj_goq gj_clT ok_45 [4, 17, 32, 40, 88, 96, 102] ?_
          show vp_in r1 91 ∧ ((¬ (SI4 50 (gj_n r1)) = 0 → gj_Goes E om0 mt_45 84 [some (.ref 61), some (.ref 42), some (.int x2), some (.int x3), some (.int x4), some (.int r1)] [(.int r1), (.ref 42), (.ref 61)] SI4 SJ4 (QV Q)) ∧ ((SI4 50 (gj_n r1)) = 0 → gj_Goes E om0 mt_45 85 [some (.ref 61), some (.ref 42), some (.int x2), some (.int x3), some (.int x4), some (.int r1)] [(.int (i3 1)), (.int r1), (.ref 42), (.ref 61)] SI4 SJ4 (QV Q)))
          refine ⟨k5, ?_⟩
          refine ⟨fun c19 => ?_, fun c19 => ?_⟩
          · refine gj_goq gj_clT ok_45 [4, 17, 32, 40, 88, 96, 102] ?_
            show gj_Do E om0 (gj_mt 49) [(.ref 61), (.ref 42), (.int r1), (.int (i3 (-1)))] SI4 SJ4 _
            refine gj_Do.mono ((((q3.2 c4).2.2 c6).1 c18).1 c19) (fun v_ SI22 SJ22 h_ => ?_)
            obtain ⟨rfl, q20⟩ := h_
            show gj_Goes E om0 mt_45 88 [some (.ref 61), some (.ref 42), some (.int x2), some (.int x3), some (.int x4), some (.int r1)] [] SI22 SJ22 (QV Q)
            refine gj_goq gj_clT ok_45 [4, 17, 32, 40, 88, 96, 102] ?_
            show (¬ x2 = 0 → gj_Goes E om0 mt_45 98 [some (.ref 61), some (.ref 42), some (.int x2), some (.int x3), some (.int x4), some (.int r1)] [] SI22 SJ22 (QV Q)) ∧ (x2 = 0 → gj_Do E om0 (gj_mt 50) [(.ref 61)] SI22 SJ22 _)
            refine ⟨fun c21 => ?_, fun c21 => ?_⟩
            · refine gj_goq gj_clT ok_45 [4, 17, 32, 40, 88, 96, 102] ?_
              show gj_Do E om0 (gj_mt 52) [(.ref 61)] SI22 SJ22 _
              refine gj_Do.mono (q20.1 c21) (fun v_ SI24 SJ24 h_ => ?_)
              obtain ⟨rfl, q22⟩ := h_
              show gj_Goes E om0 mt_45 102 [some (.ref 61), some (.ref 42), some (.int x2), some (.int x3), some (.int x4), some (.int r1)] [] SI24 SJ24 (QV Q)
              refine gj_goq gj_clT ok_45 [4, 17, 32, 40, 88, 96, 102] ?_
              show gj_Goes E om0 mt_45 17 [some (.ref 61), some (.ref 42), some (.int x2), some (.int x3), some (.int (x4 + (i3 1))), some (.int r1)] [] SI24 SJ24 (QV Q)
              exact gj_fh q22 (And.intro (Or.inr rfl) (And.intro (Or.inr rfl) (And.intro (Or.inr rfl) (And.intro (Or.inr rfl) (And.intro (Or.inr rfl) (And.intro (Or.inl rfl) trivial))))))
            · refine gj_Do.mono (q20.2 c21) (fun v_ SI26 SJ26 h_ => ?_)
              obtain ⟨rfl, q23⟩ := h_
              show gj_Goes E om0 mt_45 96 [some (.ref 61), some (.ref 42), some (.int x2), some (.int x3), some (.int x4), some (.int r1)] [] SI26 SJ26 (QV Q)
              refine gj_goq gj_clT ok_45 [4, 17, 32, 40, 88, 96, 102] ?_
              show gj_Do E om0 (gj_mt 52) [(.ref 61)] SI26 SJ26 _
              refine gj_Do.mono q23 (fun v_ SI28 SJ28 h_ => ?_)
              obtain ⟨rfl, q24⟩ := h_
              show gj_Goes E om0 mt_45 102 [some (.ref 61), some (.ref 42), some (.int (i3 1)), some (.int x3), some (.int x4), some (.int r1)] [] SI28 SJ28 (QV Q)
              refine gj_goq gj_clT ok_45 [4, 17, 32, 40, 88, 96, 102] ?_
              show gj_Goes E om0 mt_45 17 [some (.ref 61), some (.ref 42), some (.int (i3 1)), some (.int x3), some (.int (x4 + (i3 1))), some (.int r1)] [] SI28 SJ28 (QV Q)
              exact gj_fh q24 (And.intro (Or.inr rfl) (And.intro (Or.inr rfl) (And.intro (Or.inr rfl) (And.intro (Or.inr rfl) (And.intro (Or.inr rfl) (And.intro (Or.inl rfl) trivial))))))
          · refine gj_goq gj_clT ok_45 [4, 17, 32, 40, 88, 96, 102] ?_
            show gj_Do E om0 (gj_mt 49) [(.ref 61), (.ref 42), (.int r1), (.int (i3 1))] SI4 SJ4 _
            refine gj_Do.mono ((((q3.2 c4).2.2 c6).1 c18).2 c19) (fun v_ SI30 SJ30 h_ => ?_)
            obtain ⟨rfl, q25⟩ := h_
            show gj_Goes E om0 mt_45 88 [some (.ref 61), some (.ref 42), some (.int x2), some (.int x3), some (.int x4), some (.int r1)] [] SI30 SJ30 (QV Q)
            refine gj_goq gj_clT ok_45 [4, 17, 32, 40, 88, 96, 102] ?_
            show (¬ x2 = 0 → gj_Goes E om0 mt_45 98 [some (.ref 61), some (.ref 42), some (.int x2), some (.int x3), some (.int x4), some (.int r1)] [] SI30 SJ30 (QV Q)) ∧ (x2 = 0 → gj_Do E om0 (gj_mt 50) [(.ref 61)] SI30 SJ30 _)
            refine ⟨fun c26 => ?_, fun c26 => ?_⟩
            · refine gj_goq gj_clT ok_45 [4, 17, 32, 40, 88, 96, 102] ?_
              show gj_Do E om0 (gj_mt 52) [(.ref 61)] SI30 SJ30 _
              refine gj_Do.mono (q25.1 c26) (fun v_ SI32 SJ32 h_ => ?_)
              obtain ⟨rfl, q27⟩ := h_
              show gj_Goes E om0 mt_45 102 [some (.ref 61), some (.ref 42), some (.int x2), some (.int x3), some (.int x4), some (.int r1)] [] SI32 SJ32 (QV Q)
              refine gj_goq gj_clT ok_45 [4, 17, 32, 40, 88, 96, 102] ?_
              show gj_Goes E om0 mt_45 17 [some (.ref 61), some (.ref 42), some (.int x2), some (.int x3), some (.int (x4 + (i3 1))), some (.int r1)] [] SI32 SJ32 (QV Q)
              exact gj_fh q27 (And.intro (Or.inr rfl) (And.intro (Or.inr rfl) (And.intro (Or.inr rfl) (And.intro (Or.inr rfl) (And.intro (Or.inr rfl) (And.intro (Or.inl rfl) trivial))))))
            · refine gj_Do.mono (q25.2 c26) (fun v_ SI34 SJ34 h_ => ?_)
              obtain ⟨rfl, q28⟩ := h_
              show gj_Goes E om0 mt_45 96 [some (.ref 61), some (.ref 42), some (.int x2), some (.int x3), some (.int x4), some (.int r1)] [] SI34 SJ34 (QV Q)
              refine gj_goq gj_clT ok_45 [4, 17, 32, 40, 88, 96, 102] ?_
              show gj_Do E om0 (gj_mt 52) [(.ref 61)] SI34 SJ34 _
              refine gj_Do.mono q28 (fun v_ SI36 SJ36 h_ => ?_)
              obtain ⟨rfl, q29⟩ := h_
              show gj_Goes E om0 mt_45 102 [some (.ref 61), some (.ref 42), some (.int (i3 1)), some (.int x3), some (.int x4), some (.int r1)] [] SI36 SJ36 (QV Q)
              refine gj_goq gj_clT ok_45 [4, 17, 32, 40, 88, 96, 102] ?_
              show gj_Goes E om0 mt_45 17 [some (.ref 61), some (.ref 42), some (.int (i3 1)), some (.int x3), some (.int (x4 + (i3 1))), some (.int r1)] [] SI36 SJ36 (QV Q)
              exact gj_fh q29 (And.intro (Or.inr rfl) (And.intro (Or.inr rfl) (And.intro (Or.inr rfl) (And.intro (Or.inr rfl) (And.intro (Or.inr rfl) (And.intro (Or.inl rfl) trivial))))))
        · refine gj_goq gj_clT ok_45 [4, 17, 32, 40, 88, 96, 102] ?_
          show gj_Goes E om0 mt_45 17 [some (.ref 61), some (.ref 42), some (.int x2), some (.int x3), some (.int (x4 + (i3 1))), some (.int r1)] [] SI4 SJ4 (QV Q)
          exact gj_fh (((q3.2 c4).2.2 c6).2 c18) (And.intro (Or.inr rfl) (And.intro (Or.inr rfl) (And.intro (Or.inr rfl) (And.intro (Or.inr rfl) (And.intro (Or.inr rfl) (And.intro (Or.inl rfl) trivial))))))
set_option maxRecDepth 20000 in
/-- GraspJudge$Release.seekPlane -/
theorem st_46 {E : gj_E} {Q : gj_I → gj_J → Prop} (SI : gj_I) (SJ : gj_J) (h : GoV E mt_46 2 [some (.ref 61), some (.ref 42), some (.int (i3 0)), none, none] SI SJ Q) : DoV E 46 [(.ref 61), (.ref 42)] SI SJ Q := by
  refine gj_start (M := mt_46) ok_46 (Nat.le_of_ble_eq_true rfl) ?_
  refine gj_goq gj_clT ok_46 [2, 14, 27, 35, 48, 51, 55] ?_
  show gj_Goes E om0 mt_46 2 [some (.ref 61), some (.ref 42), some (.int (i3 0)), none, none] [] SI SJ (QV Q)
  exact h
set_option maxRecDepth 20000 in
theorem lp_46_2 {E : gj_E} {Q : gj_I → gj_J → Prop} (x2 : Int32) (SI : gj_I) (SJ : gj_J) (h : ((SI 42 9) ≤ x2 → Q SI SJ) ∧ (¬ (SI 42 9) ≤ x2 → GoV E mt_46 14 [some (.ref 61), some (.ref 42), some (.int x2), some (.int (x2 + (i3 1))), none] SI SJ Q)) : GoV E mt_46 2 [some (.ref 61), some (.ref 42), some (.int x2), none, none] SI SJ Q := by
  refine gj_goq gj_clT ok_46 [2, 14, 27, 35, 48, 51, 55] ?_
  show ((SI 42 9) ≤ x2 → gj_Goes E om0 mt_46 68 [some (.ref 61), some (.ref 42), some (.int x2), none, none] [] SI SJ (QV Q)) ∧ (¬ (SI 42 9) ≤ x2 → gj_Goes E om0 mt_46 14 [some (.ref 61), some (.ref 42), some (.int x2), some (.int (x2 + (i3 1))), none] [] SI SJ (QV Q))
  refine ⟨fun c1 => ?_, fun c1 => ?_⟩
  · refine gj_goq gj_clT ok_46 [2, 14, 27, 35, 48, 51, 55] ?_
    show QV Q none SI SJ
    exact ⟨rfl, (h.1 c1)⟩
  · exact (h.2 c1)
set_option maxRecDepth 20000 in
theorem lp_46_14 {E : gj_E} {Q : gj_I → gj_J → Prop} (x2 : Int32) (x3 : Int32) (SI : gj_I) (SJ : gj_J) (h : ((SI 42 9) ≤ x3 → GoV E mt_46 2 [some (.ref 61), some (.ref 42), some (.int (x2 + (i3 1))), none, none] SI SJ Q) ∧ (¬ (SI 42 9) ≤ x3 → DoI E 2 [(.int x2), (.int x3)] SI SJ (fun r1 SI2 SJ2 => DoI E 8 [(.ref 42), (.int r1)] SI2 SJ2 (fun r3 SI4 SJ4 => (r3 = 0 → GoV E mt_46 14 [some (.ref 61), some (.ref 42), some (.int x2), some (.int (x3 + (i3 1))), none] SI4 SJ4 Q) ∧ (¬ r3 = 0 → DoI E 47 [(.ref 42), (.int r1)] SI4 SJ4 (fun r5 SI6 SJ6 => DoV E 49 [(.ref 61), (.ref 42), (.int r1), (.int r5)] SI6 SJ6 (fun SI8 SJ8 => DoV E 50 [(.ref 61)] SI8 SJ8 (fun SI10 SJ10 => Q SI10 SJ10)))))))) : GoV E mt_46 14 [some (.ref 61), some (.ref 42), some (.int x2), some (.int x3), none] SI SJ Q := by
  refine gj_goq gj_clT ok_46 [2, 14, 27, 35, 48, 51, 55] ?_
  show ((SI 42 9) ≤ x3 → gj_Goes E om0 mt_46 62 [some (.ref 61), some (.ref 42), some (.int x2), some (.int x3), none] [] SI SJ (QV Q)) ∧ (¬ (SI 42 9) ≤ x3 → gj_Do E om0 (gj_mt 2) [(.int x2), (.int x3)] SI SJ _)
  refine ⟨fun c1 => ?_, fun c1 => ?_⟩
  · refine gj_goq gj_clT ok_46 [2, 14, 27, 35, 48, 51, 55] ?_
    show gj_Goes E om0 mt_46 2 [some (.ref 61), some (.ref 42), some (.int (x2 + (i3 1))), some (.int x3), none] [] SI SJ (QV Q)
    exact gj_fh (h.1 c1) (And.intro (Or.inr rfl) (And.intro (Or.inr rfl) (And.intro (Or.inr rfl) (And.intro (Or.inl rfl) (And.intro (Or.inl rfl) trivial)))))
  · refine gj_Do.mono (h.2 c1) (fun v_ SI2 SJ2 h_ => ?_)
    obtain ⟨r1, rfl, q2⟩ := h_
    show gj_Goes E om0 mt_46 27 [some (.ref 61), some (.ref 42), some (.int x2), some (.int x3), none] [(.int r1)] SI2 SJ2 (QV Q)
    refine gj_goq gj_clT ok_46 [2, 14, 27, 35, 48, 51, 55] ?_
    show gj_Do E om0 (gj_mt 8) [(.ref 42), (.int r1)] SI2 SJ2 _
    refine gj_Do.mono q2 (fun v_ SI4 SJ4 h_ => ?_)
    obtain ⟨r3, rfl, q3⟩ := h_
    show gj_Goes E om0 mt_46 35 [some (.ref 61), some (.ref 42), some (.int x2), some (.int x3), some (.int r1)] [(.int r3)] SI4 SJ4 (QV Q)
    refine gj_goq gj_clT ok_46 [2, 14, 27, 35, 48, 51, 55] ?_
    show (r3 = 0 → gj_Goes E om0 mt_46 56 [some (.ref 61), some (.ref 42), some (.int x2), some (.int x3), some (.int r1)] [] SI4 SJ4 (QV Q)) ∧ (¬ r3 = 0 → gj_Do E om0 (gj_mt 47) [(.ref 42), (.int r1)] SI4 SJ4 _)
    refine ⟨fun c4 => ?_, fun c4 => ?_⟩
    · refine gj_goq gj_clT ok_46 [2, 14, 27, 35, 48, 51, 55] ?_
      show gj_Goes E om0 mt_46 14 [some (.ref 61), some (.ref 42), some (.int x2), some (.int (x3 + (i3 1))), some (.int r1)] [] SI4 SJ4 (QV Q)
      exact gj_fh (q3.1 c4) (And.intro (Or.inr rfl) (And.intro (Or.inr rfl) (And.intro (Or.inr rfl) (And.intro (Or.inr rfl) (And.intro (Or.inl rfl) trivial)))))
    · refine gj_Do.mono (q3.2 c4) (fun v_ SI6 SJ6 h_ => ?_)
      obtain ⟨r5, rfl, q5⟩ := h_
      show gj_Goes E om0 mt_46 48 [some (.ref 61), some (.ref 42), some (.int x2), some (.int x3), some (.int r1)] [(.int r5), (.int r1), (.ref 42), (.ref 61)] SI6 SJ6 (QV Q)
      refine gj_goq gj_clT ok_46 [2, 14, 27, 35, 48, 51, 55] ?_
      show gj_Do E om0 (gj_mt 49) [(.ref 61), (.ref 42), (.int r1), (.int r5)] SI6 SJ6 _
      refine gj_Do.mono q5 (fun v_ SI8 SJ8 h_ => ?_)
      obtain ⟨rfl, q6⟩ := h_
      show gj_Goes E om0 mt_46 51 [some (.ref 61), some (.ref 42), some (.int x2), some (.int x3), some (.int r1)] [] SI8 SJ8 (QV Q)
      refine gj_goq gj_clT ok_46 [2, 14, 27, 35, 48, 51, 55] ?_
      show gj_Do E om0 (gj_mt 50) [(.ref 61)] SI8 SJ8 _
      refine gj_Do.mono q6 (fun v_ SI10 SJ10 h_ => ?_)
      obtain ⟨rfl, q7⟩ := h_
      show gj_Goes E om0 mt_46 55 [some (.ref 61), some (.ref 42), some (.int x2), some (.int x3), some (.int r1)] [] SI10 SJ10 (QV Q)
      refine gj_goq gj_clT ok_46 [2, 14, 27, 35, 48, 51, 55] ?_
      show QV Q none SI10 SJ10
      exact ⟨rfl, q7⟩
set_option maxRecDepth 20000 in
/-- GraspJudge$Release.lastSign -/
theorem st_47 {E : gj_E} {Q : Int32 → gj_I → gj_J → Prop} (a1 : Int32) (SI : gj_I) (SJ : gj_J) (h : vp_in a1 91 ∧ ((¬ (SJ 49 (gj_n a1)) = (i6 0) → (¬ (SJ 49 (gj_n a1)) = (i6 0) → DoI E 287 [(.long (SJ 49 (gj_n a1)))] SI SJ (fun r1 SI2 SJ2 => Q r1 SI2 SJ2)) ∧ ((SJ 49 (gj_n a1)) = (i6 0) → DoI E 287 [(.long (SJ 47 (gj_n a1)))] SI SJ (fun r3 SI4 SJ4 => Q r3 SI4 SJ4))) ∧ ((SJ 49 (gj_n a1)) = (i6 0) → (¬ (SJ 48 (gj_n a1)) = (i6 0) → DoI E 287 [(.long (SJ 48 (gj_n a1)))] SI SJ (fun r5 SI6 SJ6 => Q r5 SI6 SJ6)) ∧ ((SJ 48 (gj_n a1)) = (i6 0) → DoI E 287 [(.long (SJ 47 (gj_n a1)))] SI SJ (fun r7 SI8 SJ8 => Q r7 SI8 SJ8))))) : DoI E 47 [(.ref 42), (.int a1)] SI SJ Q := by
  refine gj_start (M := mt_47) ok_47 (Nat.le_of_ble_eq_true rfl) ?_
  refine gj_goq gj_clT ok_47 [37] ?_
  show vp_in a1 91 ∧ ((¬ (lg_cmp (SJ 49 (gj_n a1)) (i6 0)) = 0 → gj_Goes E om0 mt_47 20 [some (.ref 42), some (.int a1), some (.long (SJ 49 (gj_n a1))), none] [] SI SJ (QI Q)) ∧ ((lg_cmp (SJ 49 (gj_n a1)) (i6 0)) = 0 → vp_in a1 91 ∧ ((¬ (lg_cmp (SJ 48 (gj_n a1)) (i6 0)) = 0 → gj_Goes E om0 mt_47 33 [some (.ref 42), some (.int a1), some (.long (SJ 48 (gj_n a1))), none] [] SI SJ (QI Q)) ∧ ((lg_cmp (SJ 48 (gj_n a1)) (i6 0)) = 0 → vp_in a1 91 ∧ (gj_Do E om0 (gj_mt 287) [(.long (SJ 47 (gj_n a1)))] SI SJ _)))))
  have k1 := h.1
  refine ⟨k1, ?_⟩
  refine ⟨fun c2 => ?_, fun c2 => ?_⟩
  · refine gj_goq gj_clT ok_47 [37] ?_
    show (¬ (lg_cmp (SJ 49 (gj_n a1)) (i6 0)) = 0 → gj_Goes E om0 mt_47 33 [some (.ref 42), some (.int a1), some (.long (SJ 49 (gj_n a1))), none] [] SI SJ (QI Q)) ∧ ((lg_cmp (SJ 49 (gj_n a1)) (i6 0)) = 0 → vp_in a1 91 ∧ (gj_Do E om0 (gj_mt 287) [(.long (SJ 47 (gj_n a1)))] SI SJ _))
    refine ⟨fun c3 => ?_, fun c3 => ?_⟩
    · refine gj_goq gj_clT ok_47 [37] ?_
      show gj_Do E om0 (gj_mt 287) [(.long (SJ 49 (gj_n a1)))] SI SJ _
      refine gj_Do.mono ((h.2.1 (fun z_ => c2 (lgc_eq.mpr z_))).1 (fun z_ => c3 (lgc_eq.mpr z_))) (fun v_ SI2 SJ2 h_ => ?_)
      obtain ⟨r1, rfl, q4⟩ := h_
      show gj_Goes E om0 mt_47 37 [some (.ref 42), some (.int a1), some (.long (SJ 49 (gj_n a1))), none] [(.int r1)] SI2 SJ2 (QI Q)
      refine gj_goq gj_clT ok_47 [37] ?_
      show QI Q (some (.int r1)) SI2 SJ2
      exact ⟨_, rfl, q4⟩
    · refine ⟨k1, ?_⟩
      refine gj_Do.mono ((h.2.1 (fun z_ => c2 (lgc_eq.mpr z_))).2 (lgc_eq.mp c3)) (fun v_ SI4 SJ4 h_ => ?_)
      obtain ⟨r3, rfl, q5⟩ := h_
      show gj_Goes E om0 mt_47 37 [some (.ref 42), some (.int a1), some (.long (SJ 47 (gj_n a1))), none] [(.int r3)] SI4 SJ4 (QI Q)
      refine gj_goq gj_clT ok_47 [37] ?_
      show QI Q (some (.int r3)) SI4 SJ4
      exact ⟨_, rfl, q5⟩
  · refine ⟨k1, ?_⟩
    refine ⟨fun c6 => ?_, fun c6 => ?_⟩
    · refine gj_goq gj_clT ok_47 [37] ?_
      show gj_Do E om0 (gj_mt 287) [(.long (SJ 48 (gj_n a1)))] SI SJ _
      refine gj_Do.mono ((h.2.2 (lgc_eq.mp c2)).1 (fun z_ => c6 (lgc_eq.mpr z_))) (fun v_ SI6 SJ6 h_ => ?_)
      obtain ⟨r5, rfl, q7⟩ := h_
      show gj_Goes E om0 mt_47 37 [some (.ref 42), some (.int a1), some (.long (SJ 48 (gj_n a1))), none] [(.int r5)] SI6 SJ6 (QI Q)
      refine gj_goq gj_clT ok_47 [37] ?_
      show QI Q (some (.int r5)) SI6 SJ6
      exact ⟨_, rfl, q7⟩
    · refine ⟨k1, ?_⟩
      refine gj_Do.mono ((h.2.2 (lgc_eq.mp c2)).2 (lgc_eq.mp c6)) (fun v_ SI8 SJ8 h_ => ?_)
      obtain ⟨r7, rfl, q8⟩ := h_
      show gj_Goes E om0 mt_47 37 [some (.ref 42), some (.int a1), some (.long (SJ 47 (gj_n a1))), none] [(.int r7)] SI8 SJ8 (QI Q)
      refine gj_goq gj_clT ok_47 [37] ?_
      show QI Q (some (.int r7)) SI8 SJ8
      exact ⟨_, rfl, q8⟩
set_option maxRecDepth 20000 in
/-- GraspJudge$Release.seekLine -/
theorem st_48 {E : gj_E} {Q : gj_I → gj_J → Prop} (SI : gj_I) (SJ : gj_J) (h : ((SI 42 9) = 0 → Q SI (gj_w2 (gj_w2 (gj_w2 SJ 61 4 (i6 1)) 61 5 (i6 0)) 61 6 (i6 0))) ∧ (¬ (SI 42 9) = 0 → (¬ (SJ 43 0) = (i6 0) → DoL E 154 [(.long (SJ 43 0)), (.long (SJ 44 0))] SI (gj_w2 (gj_w2 (gj_w2 SJ 61 4 (i6 1)) 61 5 (i6 0)) 61 6 (i6 0)) (fun r1 SI2 SJ2 => (¬ r1 = (i6 0) → DoI E 287 [(.long (SJ2 43 0))] SI2 SJ2 (fun r3 SI4 SJ4 => ¬ r1 = 0 ∧ (Q SI4 (gj_w2 (gj_w2 SJ4 61 4 (((-(SJ2 44 0)) * (r3).toInt64) / r1)) 61 5 ((if 0 < (SJ4 43 0) then (SJ4 43 0) else -(SJ4 43 0)) / r1))))) ∧ (r1 = (i6 0) → Q SI2 SJ2))) ∧ ((SJ 43 0) = (i6 0) → Q SI (gj_w2 (gj_w2 (gj_w2 SJ 61 4 (i6 1)) 61 5 (i6 0)) 61 6 (i6 0))))) : DoV E 48 [(.ref 61), (.ref 42)] SI SJ Q := by
  refine gj_start (M := mt_48) ok_48 (Nat.le_of_ble_eq_true rfl) ?_
  refine gj_goq gj_clT ok_48 [49, 74] ?_
  show ((SI 42 9) = 0 → gj_Goes E om0 mt_48 33 [some (.ref 61), some (.ref 42), none, none] [] SI (gj_w2 (gj_w2 (gj_w2 SJ 61 4 (i6 1)) 61 5 (i6 0)) 61 6 (i6 0)) (QV Q)) ∧ (¬ (SI 42 9) = 0 → vp_in (i3 0) 14 ∧ ((¬ (lg_cmp (SJ 43 0) (i6 0)) = 0 → gj_Goes E om0 mt_48 34 [some (.ref 61), some (.ref 42), none, none] [] SI (gj_w2 (gj_w2 (gj_w2 SJ 61 4 (i6 1)) 61 5 (i6 0)) 61 6 (i6 0)) (QV Q)) ∧ ((lg_cmp (SJ 43 0) (i6 0)) = 0 → QV Q none SI (gj_w2 (gj_w2 (gj_w2 SJ 61 4 (i6 1)) 61 5 (i6 0)) 61 6 (i6 0)))))
  refine ⟨fun c1 => ?_, fun c1 => ?_⟩
  · refine gj_goq gj_clT ok_48 [49, 74] ?_
    show QV Q none SI (gj_w2 (gj_w2 (gj_w2 SJ 61 4 (i6 1)) 61 5 (i6 0)) 61 6 (i6 0))
    exact ⟨rfl, (h.1 c1)⟩
  · refine ⟨(gj_vin (by decide)), ?_⟩
    refine ⟨fun c2 => ?_, fun c2 => ?_⟩
    · refine gj_goq gj_clT ok_48 [49, 74] ?_
      show vp_in (i3 0) 14 ∧ (vp_in (i3 0) 14 ∧ (gj_Do E om0 (gj_mt 154) [(.long (SJ 43 0)), (.long (SJ 44 0))] SI (gj_w2 (gj_w2 (gj_w2 SJ 61 4 (i6 1)) 61 5 (i6 0)) 61 6 (i6 0)) _))
      refine ⟨(gj_vin (by decide)), ?_⟩
      refine ⟨(gj_vin (by decide)), ?_⟩
      refine gj_Do.mono ((h.2 c1).1 (fun z_ => c2 (lgc_eq.mpr z_))) (fun v_ SI2 SJ2 h_ => ?_)
      obtain ⟨r1, rfl, q3⟩ := h_
      show gj_Goes E om0 mt_48 49 [some (.ref 61), some (.ref 42), none, none] [(.long r1)] SI2 SJ2 (QV Q)
      refine gj_goq gj_clT ok_48 [49, 74] ?_
      show (¬ (lg_cmp r1 (i6 0)) = 0 → gj_Goes E om0 mt_48 57 [some (.ref 61), some (.ref 42), some (.long r1), none] [] SI2 SJ2 (QV Q)) ∧ ((lg_cmp r1 (i6 0)) = 0 → QV Q none SI2 SJ2)
      refine ⟨fun c4 => ?_, fun c4 => ?_⟩
      · refine gj_goq gj_clT ok_48 [49, 74] ?_
        show vp_in (i3 0) 14 ∧ (vp_in (i3 0) 14 ∧ (gj_Do E om0 (gj_mt 287) [(.long (SJ2 43 0))] SI2 SJ2 _))
        refine ⟨(gj_vin (by decide)), ?_⟩
        refine ⟨(gj_vin (by decide)), ?_⟩
        refine gj_Do.mono (q3.1 (fun z_ => c4 (lgc_eq.mpr z_))) (fun v_ SI4 SJ4 h_ => ?_)
        obtain ⟨r3, rfl, q5⟩ := h_
        show gj_Goes E om0 mt_48 74 [some (.ref 61), some (.ref 42), some (.long r1), none] [(.int r3), (.long (-(SJ2 44 0))), (.ref 61)] SI4 SJ4 (QV Q)
        refine gj_goq gj_clT ok_48 [49, 74] ?_
        show ¬ r1 = 0 ∧ (vp_in (i3 0) 14 ∧ (¬ r1 = 0 ∧ (QV Q none SI4 (gj_w2 (gj_w2 SJ4 61 4 (((-(SJ2 44 0)) * (r3).toInt64) / r1)) 61 5 ((if 0 < (SJ4 43 0) then (SJ4 43 0) else -(SJ4 43 0)) / r1)))))
        have k6 := q5.1
        refine ⟨k6, ?_⟩
        refine ⟨(gj_vin (by decide)), ?_⟩
        refine ⟨k6, ?_⟩
        exact ⟨rfl, q5.2⟩
      · exact ⟨rfl, (q3.2 (lgc_eq.mp c4))⟩
    · exact ⟨rfl, ((h.2 c1).2 (lgc_eq.mp c2))⟩
set_option maxRecDepth 20000 in
/-- GraspJudge$Release.lower -/
theorem st_49 {E : gj_E} {Q : gj_I → gj_J → Prop} (a1 : Int32) (a2 : Int32) (SI : gj_I) (SJ : gj_J) (h : vp_in a1 91 ∧ (DoL E 154 [(.long (SJ 48 (gj_n a1))), (.long (SJ 49 (gj_n a1)))] SI SJ (fun r1 SI2 SJ2 => DoL E 154 [(.long (SJ 47 (gj_n a1))), (.long r1)] SI2 SJ2 (fun r3 SI4 SJ4 => (¬ r3 = (i6 0) → ¬ r3 = 0 ∧ (Q SI4 (gj_w2 (gj_w2 (gj_w2 SJ4 61 7 (((a2).toInt64 * (SJ4 47 (gj_n a1))) / r3)) 61 8 (((a2).toInt64 * (SJ4 48 (gj_n a1))) / r3)) 61 9 (((a2).toInt64 * (SJ4 49 (gj_n a1))) / r3)))) ∧ (r3 = (i6 0) → Q SI4 SJ4))))) : DoV E 49 [(.ref 61), (.ref 42), (.int a1), (.int a2)] SI SJ Q := by
  refine gj_start (M := mt_49) ok_49 (Nat.le_of_ble_eq_true rfl) ?_
  refine gj_goq gj_clT ok_49 [21, 24] ?_
  show vp_in a1 91 ∧ (vp_in a1 91 ∧ (vp_in a1 91 ∧ (gj_Do E om0 (gj_mt 154) [(.long (SJ 48 (gj_n a1))), (.long (SJ 49 (gj_n a1)))] SI SJ _)))
  have k1 := h.1
  refine ⟨k1, ?_⟩
  refine ⟨k1, ?_⟩
  refine ⟨k1, ?_⟩
  refine gj_Do.mono h.2 (fun v_ SI2 SJ2 h_ => ?_)
  obtain ⟨r1, rfl, q2⟩ := h_
  show gj_Goes E om0 mt_49 21 [some (.ref 61), some (.ref 42), some (.int a1), some (.int a2), none, none] [(.long r1), (.long (SJ 47 (gj_n a1)))] SI2 SJ2 (QV Q)
  refine gj_goq gj_clT ok_49 [21, 24] ?_
  show gj_Do E om0 (gj_mt 154) [(.long (SJ 47 (gj_n a1))), (.long r1)] SI2 SJ2 _
  refine gj_Do.mono q2 (fun v_ SI4 SJ4 h_ => ?_)
  obtain ⟨r3, rfl, q3⟩ := h_
  show gj_Goes E om0 mt_49 24 [some (.ref 61), some (.ref 42), some (.int a1), some (.int a2), none, none] [(.long r3)] SI4 SJ4 (QV Q)
  refine gj_goq gj_clT ok_49 [21, 24] ?_
  show (¬ (lg_cmp r3 (i6 0)) = 0 → gj_Goes E om0 mt_49 34 [some (.ref 61), some (.ref 42), some (.int a1), some (.int a2), some (.long r3), none] [] SI4 SJ4 (QV Q)) ∧ ((lg_cmp r3 (i6 0)) = 0 → QV Q none SI4 SJ4)
  refine ⟨fun c4 => ?_, fun c4 => ?_⟩
  · refine gj_goq gj_clT ok_49 [21, 24] ?_
    show vp_in a1 91 ∧ (¬ r3 = 0 ∧ (vp_in a1 91 ∧ (¬ r3 = 0 ∧ (vp_in a1 91 ∧ (¬ r3 = 0 ∧ (QV Q none SI4 (gj_w2 (gj_w2 (gj_w2 SJ4 61 7 (((a2).toInt64 * (SJ4 47 (gj_n a1))) / r3)) 61 8 (((a2).toInt64 * (SJ4 48 (gj_n a1))) / r3)) 61 9 (((a2).toInt64 * (SJ4 49 (gj_n a1))) / r3))))))))
    refine ⟨k1, ?_⟩
    have k5 := (q3.1 (fun z_ => c4 (lgc_eq.mpr z_))).1
    refine ⟨k5, ?_⟩
    refine ⟨k1, ?_⟩
    refine ⟨k5, ?_⟩
    refine ⟨k1, ?_⟩
    refine ⟨k5, ?_⟩
    exact ⟨rfl, (q3.1 (fun z_ => c4 (lgc_eq.mpr z_))).2⟩
  · exact ⟨rfl, (q3.2 (lgc_eq.mp c4))⟩
set_option maxRecDepth 20000 in
/-- GraspJudge$Release.choose -/
theorem st_50 {E : gj_E} {Q : gj_I → gj_J → Prop} (SI : gj_I) (SJ : gj_J) (h : Q SI (gj_w2 (gj_w2 (gj_w2 SJ 61 4 (SJ 61 7)) 61 5 (SJ 61 8)) 61 6 (SJ 61 9))) : DoV E 50 [(.ref 61)] SI SJ Q := by
  refine gj_start (M := mt_50) ok_50 (Nat.le_of_ble_eq_true rfl) ?_
  refine gj_goq gj_clT ok_50 [] ?_
  show QV Q none SI (gj_w2 (gj_w2 (gj_w2 SJ 61 4 (SJ 61 7)) 61 5 (SJ 61 8)) 61 6 (SJ 61 9))
  exact ⟨rfl, h⟩
set_option maxRecDepth 20000 in
/-- GraspJudge$Release.compareWith -/
theorem st_51 {E : gj_E} {Q : Int32 → gj_I → gj_J → Prop} (a1 : Int32) (SI : gj_I) (SJ : gj_J) (h : vp_in a1 14 ∧ (((SJ 61 7) = (SJ 62 (gj_n a1)) → ((SJ 61 8) = (SJ 63 (gj_n a1)) → DoI E 286 [(.long (SJ 61 9)), (.long (SJ 64 (gj_n a1)))] SI SJ (fun r1 SI2 SJ2 => Q r1 SI2 SJ2)) ∧ (¬ (SJ 61 8) = (SJ 63 (gj_n a1)) → DoI E 286 [(.long (SJ 61 8)), (.long (SJ 63 (gj_n a1)))] SI SJ (fun r3 SI4 SJ4 => Q r3 SI4 SJ4))) ∧ (¬ (SJ 61 7) = (SJ 62 (gj_n a1)) → DoI E 286 [(.long (SJ 61 7)), (.long (SJ 62 (gj_n a1)))] SI SJ (fun r5 SI6 SJ6 => Q r5 SI6 SJ6)))) : DoI E 51 [(.ref 61), (.int a1)] SI SJ Q := by
  refine gj_start (M := mt_51) ok_51 (Nat.le_of_ble_eq_true rfl) ?_
  refine gj_goq gj_clT ok_51 [27, 55, 71] ?_
  show vp_in a1 14 ∧ (((lg_cmp (SJ 61 7) (SJ 62 (gj_n a1))) = 0 → gj_Goes E om0 mt_51 28 [some (.ref 61), some (.int a1)] [] SI SJ (QI Q)) ∧ (¬ (lg_cmp (SJ 61 7) (SJ 62 (gj_n a1))) = 0 → vp_in a1 14 ∧ (gj_Do E om0 (gj_mt 286) [(.long (SJ 61 7)), (.long (SJ 62 (gj_n a1)))] SI SJ _)))
  have k1 := h.1
  refine ⟨k1, ?_⟩
  refine ⟨fun c2 => ?_, fun c2 => ?_⟩
  · refine gj_goq gj_clT ok_51 [27, 55, 71] ?_
    show vp_in a1 14 ∧ (((lg_cmp (SJ 61 8) (SJ 63 (gj_n a1))) = 0 → gj_Goes E om0 mt_51 58 [some (.ref 61), some (.int a1)] [] SI SJ (QI Q)) ∧ (¬ (lg_cmp (SJ 61 8) (SJ 63 (gj_n a1))) = 0 → vp_in a1 14 ∧ (gj_Do E om0 (gj_mt 286) [(.long (SJ 61 8)), (.long (SJ 63 (gj_n a1)))] SI SJ _)))
    refine ⟨k1, ?_⟩
    refine ⟨fun c3 => ?_, fun c3 => ?_⟩
    · refine gj_goq gj_clT ok_51 [27, 55, 71] ?_
      show vp_in a1 14 ∧ (gj_Do E om0 (gj_mt 286) [(.long (SJ 61 9)), (.long (SJ 64 (gj_n a1)))] SI SJ _)
      refine ⟨k1, ?_⟩
      refine gj_Do.mono ((h.2.1 (lgc_eq.mp c2)).1 (lgc_eq.mp c3)) (fun v_ SI2 SJ2 h_ => ?_)
      obtain ⟨r1, rfl, q4⟩ := h_
      show gj_Goes E om0 mt_51 71 [some (.ref 61), some (.int a1)] [(.int r1)] SI2 SJ2 (QI Q)
      refine gj_goq gj_clT ok_51 [27, 55, 71] ?_
      show QI Q (some (.int r1)) SI2 SJ2
      exact ⟨_, rfl, q4⟩
    · refine ⟨k1, ?_⟩
      refine gj_Do.mono ((h.2.1 (lgc_eq.mp c2)).2 (fun z_ => c3 (lgc_eq.mpr z_))) (fun v_ SI4 SJ4 h_ => ?_)
      obtain ⟨r3, rfl, q5⟩ := h_
      show gj_Goes E om0 mt_51 55 [some (.ref 61), some (.int a1)] [(.int r3)] SI4 SJ4 (QI Q)
      refine gj_goq gj_clT ok_51 [27, 55, 71] ?_
      show gj_Goes E om0 mt_51 71 [some (.ref 61), some (.int a1)] [(.int r3)] SI4 SJ4 (QI Q)
      refine gj_goq gj_clT ok_51 [27, 55, 71] ?_
      show QI Q (some (.int r3)) SI4 SJ4
      exact ⟨_, rfl, q5⟩
  · refine ⟨k1, ?_⟩
    refine gj_Do.mono (h.2.2 (fun z_ => c2 (lgc_eq.mpr z_))) (fun v_ SI6 SJ6 h_ => ?_)
    obtain ⟨r5, rfl, q6⟩ := h_
    show gj_Goes E om0 mt_51 27 [some (.ref 61), some (.int a1)] [(.int r5)] SI6 SJ6 (QI Q)
    refine gj_goq gj_clT ok_51 [27, 55, 71] ?_
    show QI Q (some (.int r5)) SI6 SJ6
    exact ⟨_, rfl, q6⟩
set_option maxRecDepth 20000 in
/-- GraspJudge$Release.insert -/
theorem st_52 {E : gj_E} {Q : gj_I → gj_J → Prop} (SI : gj_I) (SJ : gj_J) (h : GoV E mt_52 2 [some (.ref 61), some (.int (i3 0)), none] SI SJ Q) : DoV E 52 [(.ref 61)] SI SJ Q := by
  refine gj_start (M := mt_52) ok_52 (Nat.le_of_ble_eq_true rfl) ?_
  refine gj_goq gj_clT ok_52 [2, 15, 46, 55] ?_
  show gj_Goes E om0 mt_52 2 [some (.ref 61), some (.int (i3 0)), none] [] SI SJ (QV Q)
  exact h
set_option maxRecDepth 20000 in
theorem lp_52_2 {E : gj_E} {Q : gj_I → gj_J → Prop} (x1 : Int32) (SI : gj_I) (SJ : gj_J) (h : ((SI 61 3) ≤ x1 → ((i3 14) ≤ (SI 61 3) → Q SI SJ) ∧ (¬ (i3 14) ≤ (SI 61 3) → ((SI 61 3) ≤ x1 → GoV E mt_52 55 [some (.ref 61), some (.int x1), some (.int (SI 61 3))] SI SJ Q) ∧ (¬ (SI 61 3) ≤ x1 → DoI E 51 [(.ref 61), (.int x1)] SI SJ (fun r1 SI2 SJ2 => (¬ r1 = 0 → GoV E mt_52 55 [some (.ref 61), some (.int x1), some (.int (SI2 61 3))] SI2 SJ2 Q) ∧ (r1 = 0 → Q SI2 SJ2))))) ∧ (¬ (SI 61 3) ≤ x1 → DoI E 51 [(.ref 61), (.int x1)] SI SJ (fun r3 SI4 SJ4 => (r3 ≤ 0 → ((i3 14) ≤ (SI4 61 3) → Q SI4 SJ4) ∧ (¬ (i3 14) ≤ (SI4 61 3) → ((SI4 61 3) ≤ x1 → GoV E mt_52 55 [some (.ref 61), some (.int x1), some (.int (SI4 61 3))] SI4 SJ4 Q) ∧ (¬ (SI4 61 3) ≤ x1 → DoI E 51 [(.ref 61), (.int x1)] SI4 SJ4 (fun r5 SI6 SJ6 => (¬ r5 = 0 → GoV E mt_52 55 [some (.ref 61), some (.int x1), some (.int (SI6 61 3))] SI6 SJ6 Q) ∧ (r5 = 0 → Q SI6 SJ6))))) ∧ (¬ r3 ≤ 0 → GoV E mt_52 2 [some (.ref 61), some (.int (x1 + (i3 1))), none] SI4 SJ4 Q)))) : GoV E mt_52 2 [some (.ref 61), some (.int x1), none] SI SJ Q := by
  refine gj_goq gj_clT ok_52 [2, 15, 46, 55] ?_
  show ((SI 61 3) ≤ x1 → gj_Goes E om0 mt_52 24 [some (.ref 61), some (.int x1), none] [] SI SJ (QV Q)) ∧ (¬ (SI 61 3) ≤ x1 → gj_Do E om0 (gj_mt 51) [(.ref 61), (.int x1)] SI SJ _)
  refine ⟨fun c1 => ?_, fun c1 => ?_⟩
  · refine gj_goq gj_clT ok_52 [2, 15, 46, 55] ?_
    show ((i3 14) ≤ (SI 61 3) → gj_Goes E om0 mt_52 49 [some (.ref 61), some (.int x1), none] [] SI SJ (QV Q)) ∧ (¬ (i3 14) ≤ (SI 61 3) → ((SI 61 3) ≤ x1 → gj_Goes E om0 mt_52 50 [some (.ref 61), some (.int x1), none] [] SI SJ (QV Q)) ∧ (¬ (SI 61 3) ≤ x1 → gj_Do E om0 (gj_mt 51) [(.ref 61), (.int x1)] SI SJ _))
    refine ⟨fun c2 => ?_, fun c2 => ?_⟩
    · refine gj_goq gj_clT ok_52 [2, 15, 46, 55] ?_
      show QV Q none SI SJ
      exact ⟨rfl, ((h.1 c1).1 c2)⟩
    · refine ⟨fun c3 => ?_, fun c3 => ?_⟩
      · refine gj_goq gj_clT ok_52 [2, 15, 46, 55] ?_
        show gj_Goes E om0 mt_52 55 [some (.ref 61), some (.int x1), some (.int (SI 61 3))] [] SI SJ (QV Q)
        exact (((h.1 c1).2 c2).1 c3)
      · refine gj_Do.mono (((h.1 c1).2 c2).2 c3) (fun v_ SI2 SJ2 h_ => ?_)
        obtain ⟨r1, rfl, q4⟩ := h_
        show gj_Goes E om0 mt_52 46 [some (.ref 61), some (.int x1), none] [(.int r1)] SI2 SJ2 (QV Q)
        refine gj_goq gj_clT ok_52 [2, 15, 46, 55] ?_
        show (¬ r1 = 0 → gj_Goes E om0 mt_52 50 [some (.ref 61), some (.int x1), none] [] SI2 SJ2 (QV Q)) ∧ (r1 = 0 → QV Q none SI2 SJ2)
        refine ⟨fun c5 => ?_, fun c5 => ?_⟩
        · refine gj_goq gj_clT ok_52 [2, 15, 46, 55] ?_
          show gj_Goes E om0 mt_52 55 [some (.ref 61), some (.int x1), some (.int (SI2 61 3))] [] SI2 SJ2 (QV Q)
          exact (q4.1 c5)
        · exact ⟨rfl, (q4.2 c5)⟩
  · refine gj_Do.mono (h.2 c1) (fun v_ SI4 SJ4 h_ => ?_)
    obtain ⟨r3, rfl, q6⟩ := h_
    show gj_Goes E om0 mt_52 15 [some (.ref 61), some (.int x1), none] [(.int r3)] SI4 SJ4 (QV Q)
    refine gj_goq gj_clT ok_52 [2, 15, 46, 55] ?_
    show (r3 ≤ 0 → gj_Goes E om0 mt_52 24 [some (.ref 61), some (.int x1), none] [] SI4 SJ4 (QV Q)) ∧ (¬ r3 ≤ 0 → gj_Goes E om0 mt_52 2 [some (.ref 61), some (.int (x1 + (i3 1))), none] [] SI4 SJ4 (QV Q))
    refine ⟨fun c7 => ?_, fun c7 => ?_⟩
    · refine gj_goq gj_clT ok_52 [2, 15, 46, 55] ?_
      show ((i3 14) ≤ (SI4 61 3) → gj_Goes E om0 mt_52 49 [some (.ref 61), some (.int x1), none] [] SI4 SJ4 (QV Q)) ∧ (¬ (i3 14) ≤ (SI4 61 3) → ((SI4 61 3) ≤ x1 → gj_Goes E om0 mt_52 50 [some (.ref 61), some (.int x1), none] [] SI4 SJ4 (QV Q)) ∧ (¬ (SI4 61 3) ≤ x1 → gj_Do E om0 (gj_mt 51) [(.ref 61), (.int x1)] SI4 SJ4 _))
      refine ⟨fun c8 => ?_, fun c8 => ?_⟩
      · refine gj_goq gj_clT ok_52 [2, 15, 46, 55] ?_
        show QV Q none SI4 SJ4
        exact ⟨rfl, ((q6.1 c7).1 c8)⟩
      · refine ⟨fun c9 => ?_, fun c9 => ?_⟩
        · refine gj_goq gj_clT ok_52 [2, 15, 46, 55] ?_
          show gj_Goes E om0 mt_52 55 [some (.ref 61), some (.int x1), some (.int (SI4 61 3))] [] SI4 SJ4 (QV Q)
          exact (((q6.1 c7).2 c8).1 c9)
        · refine gj_Do.mono (((q6.1 c7).2 c8).2 c9) (fun v_ SI6 SJ6 h_ => ?_)
          obtain ⟨r5, rfl, q10⟩ := h_
          show gj_Goes E om0 mt_52 46 [some (.ref 61), some (.int x1), none] [(.int r5)] SI6 SJ6 (QV Q)
          refine gj_goq gj_clT ok_52 [2, 15, 46, 55] ?_
          show (¬ r5 = 0 → gj_Goes E om0 mt_52 50 [some (.ref 61), some (.int x1), none] [] SI6 SJ6 (QV Q)) ∧ (r5 = 0 → QV Q none SI6 SJ6)
          refine ⟨fun c11 => ?_, fun c11 => ?_⟩
          · refine gj_goq gj_clT ok_52 [2, 15, 46, 55] ?_
            show gj_Goes E om0 mt_52 55 [some (.ref 61), some (.int x1), some (.int (SI6 61 3))] [] SI6 SJ6 (QV Q)
            exact (q10.1 c11)
          · exact ⟨rfl, (q10.2 c11)⟩
    · exact (q6.2 c7)
set_option maxRecDepth 20000 in
theorem lp_52_55 {E : gj_E} {Q : gj_I → gj_J → Prop} (x1 : Int32) (x2 : Int32) (SI : gj_I) (SJ : gj_J) (h : (x2 ≤ x1 → vp_in x1 14 ∧ (Q (gj_u2 SI 61 3 ((SI 61 3) + (i3 1))) (gj_w2 (gj_w2 (gj_w2 SJ 62 (gj_n x1) (SJ 61 7)) 63 (gj_n x1) (SJ 61 8)) 64 (gj_n x1) (SJ 61 9)))) ∧ (¬ x2 ≤ x1 → vp_in (x2 - (i3 1)) 14 ∧ (vp_in x2 14 ∧ (GoV E mt_52 55 [some (.ref 61), some (.int x1), some (.int (x2 + (i3 (-1))))] SI (gj_w2 (gj_w2 (gj_w2 SJ 62 (gj_n x2) (SJ 62 (gj_n (x2 - (i3 1))))) 63 (gj_n x2) (SJ 63 (gj_n (x2 - (i3 1))))) 64 (gj_n x2) (SJ 64 (gj_n (x2 - (i3 1))))) Q)))) : GoV E mt_52 55 [some (.ref 61), some (.int x1), some (.int x2)] SI SJ Q := by
  refine gj_goq gj_clT ok_52 [2, 15, 46, 55] ?_
  show (x2 ≤ x1 → gj_Goes E om0 mt_52 108 [some (.ref 61), some (.int x1), some (.int x2)] [] SI SJ (QV Q)) ∧ (¬ x2 ≤ x1 → vp_in (x2 - (i3 1)) 14 ∧ (vp_in x2 14 ∧ (vp_in (x2 - (i3 1)) 14 ∧ (vp_in x2 14 ∧ (vp_in (x2 - (i3 1)) 14 ∧ (vp_in x2 14 ∧ (gj_Goes E om0 mt_52 55 [some (.ref 61), some (.int x1), some (.int (x2 + (i3 (-1))))] [] SI (gj_w2 (gj_w2 (gj_w2 SJ 62 (gj_n x2) (SJ 62 (gj_n (x2 - (i3 1))))) 63 (gj_n x2) (SJ 63 (gj_n (x2 - (i3 1))))) 64 (gj_n x2) (SJ 64 (gj_n (x2 - (i3 1))))) (QV Q))))))))
  refine ⟨fun c1 => ?_, fun c1 => ?_⟩
  · refine gj_goq gj_clT ok_52 [2, 15, 46, 55] ?_
    show vp_in x1 14 ∧ (vp_in x1 14 ∧ (vp_in x1 14 ∧ (QV Q none (gj_u2 SI 61 3 ((SI 61 3) + (i3 1))) (gj_w2 (gj_w2 (gj_w2 SJ 62 (gj_n x1) (SJ 61 7)) 63 (gj_n x1) (SJ 61 8)) 64 (gj_n x1) (SJ 61 9)))))
    have k2 := (h.1 c1).1
    refine ⟨k2, ?_⟩
    refine ⟨k2, ?_⟩
    refine ⟨k2, ?_⟩
    exact ⟨rfl, (h.1 c1).2⟩
  · have k3 := (h.2 c1).1
    refine ⟨k3, ?_⟩
    have k4 := (h.2 c1).2.1
    refine ⟨k4, ?_⟩
    refine ⟨k3, ?_⟩
    refine ⟨k4, ?_⟩
    refine ⟨k3, ?_⟩
    refine ⟨k4, ?_⟩
    exact (h.2 c1).2.2
set_option maxRecDepth 20000 in
/-- GraspJudge$Sides.survey -/
theorem st_53_52_42 {E : gj_E} {Q : gj_I → gj_J → Prop} (SI : gj_I) (SJ : gj_J) (h : GoV E mt_53 7 [some (.ref 52), some (.ref 42), some (.int (i3 0)), none, none] (gj_u2 SI 52 2 (i3 0)) SJ Q) : DoV E 53 [(.ref 52), (.ref 42)] SI SJ Q := by
  refine gj_start (M := mt_53) ok_53 (Nat.le_of_ble_eq_true rfl) ?_
  refine gj_goq gj_clT ok_53 [7, 19, 32, 50, 83] ?_
  show gj_Goes E om0 mt_53 7 [some (.ref 52), some (.ref 42), some (.int (i3 0)), none, none] [] (gj_u2 SI 52 2 (i3 0)) SJ (QV Q)
  exact h
set_option maxRecDepth 20000 in
theorem lp_53_7_52_42 {E : gj_E} {Q : gj_I → gj_J → Prop} (x2 : Int32) (SI : gj_I) (SJ : gj_J) (h : ((SI 42 9) ≤ x2 → DoV E 14 [(.ref 53), (.long (SJ 52 6)), (.long (SJ 52 7))] SI SJ (fun SI2 SJ2 => Q SI2 SJ2)) ∧ (¬ (SI 42 9) ≤ x2 → GoV E mt_53 19 [some (.ref 52), some (.ref 42), some (.int x2), some (.int (x2 + (i3 1))), none] SI SJ Q)) : GoV E mt_53 7 [some (.ref 52), some (.ref 42), some (.int x2), none, none] SI SJ Q := by
  refine gj_goq gj_clT ok_53 [7, 19, 32, 50, 83] ?_
  show ((SI 42 9) ≤ x2 → gj_Goes E om0 mt_53 68 [some (.ref 52), some (.ref 42), some (.int x2), none, none] [] SI SJ (QV Q)) ∧ (¬ (SI 42 9) ≤ x2 → gj_Goes E om0 mt_53 19 [some (.ref 52), some (.ref 42), some (.int x2), some (.int (x2 + (i3 1))), none] [] SI SJ (QV Q))
  refine ⟨fun c1 => ?_, fun c1 => ?_⟩
  · refine gj_goq gj_clT ok_53 [7, 19, 32, 50, 83] ?_
    show gj_Do E om0 (gj_mt 14) [(.ref 53), (.long (SJ 52 6)), (.long (SJ 52 7))] SI SJ _
    refine gj_Do.mono (h.1 c1) (fun v_ SI2 SJ2 h_ => ?_)
    obtain ⟨rfl, q2⟩ := h_
    show gj_Goes E om0 mt_53 83 [some (.ref 52), some (.ref 42), some (.int x2), none, none] [] SI2 SJ2 (QV Q)
    refine gj_goq gj_clT ok_53 [7, 19, 32, 50, 83] ?_
    show QV Q none SI2 SJ2
    exact ⟨rfl, q2⟩
  · exact (h.2 c1)
set_option maxRecDepth 20000 in
theorem lp_53_19_52_42 {E : gj_E} {Q : gj_I → gj_J → Prop} (x2 : Int32) (x3 : Int32) (SI : gj_I) (SJ : gj_J) (h : ((SI 42 9) ≤ x3 → GoV E mt_53 7 [some (.ref 52), some (.ref 42), some (.int (x2 + (i3 1))), none, none] SI SJ Q) ∧ (¬ (SI 42 9) ≤ x3 → GoV E mt_53 32 [some (.ref 52), some (.ref 42), some (.int x2), some (.int x3), some (.int (x3 + (i3 1)))] SI SJ Q)) : GoV E mt_53 19 [some (.ref 52), some (.ref 42), some (.int x2), some (.int x3), none] SI SJ Q := by
  refine gj_goq gj_clT ok_53 [7, 19, 32, 50, 83] ?_
  show ((SI 42 9) ≤ x3 → gj_Goes E om0 mt_53 62 [some (.ref 52), some (.ref 42), some (.int x2), some (.int x3), none] [] SI SJ (QV Q)) ∧ (¬ (SI 42 9) ≤ x3 → gj_Goes E om0 mt_53 32 [some (.ref 52), some (.ref 42), some (.int x2), some (.int x3), some (.int (x3 + (i3 1)))] [] SI SJ (QV Q))
  refine ⟨fun c1 => ?_, fun c1 => ?_⟩
  · refine gj_goq gj_clT ok_53 [7, 19, 32, 50, 83] ?_
    show gj_Goes E om0 mt_53 7 [some (.ref 52), some (.ref 42), some (.int (x2 + (i3 1))), some (.int x3), none] [] SI SJ (QV Q)
    exact gj_fh (h.1 c1) (And.intro (Or.inr rfl) (And.intro (Or.inr rfl) (And.intro (Or.inr rfl) (And.intro (Or.inl rfl) (And.intro (Or.inl rfl) trivial)))))
  · exact (h.2 c1)
set_option maxRecDepth 20000 in
theorem lp_53_32_52_42 {E : gj_E} {Q : gj_I → gj_J → Prop} (x2 : Int32) (x3 : Int32) (x4 : Int32) (SI : gj_I) (SJ : gj_J) (h : ((SI 42 9) ≤ x4 → GoV E mt_53 19 [some (.ref 52), some (.ref 42), some (.int x2), some (.int (x3 + (i3 1))), none] SI SJ Q) ∧ (¬ (SI 42 9) ≤ x4 → DoV E 54 [(.ref 52), (.ref 42), (.int x2), (.int x3), (.int x4)] SI SJ (fun SI2 SJ2 => GoV E mt_53 32 [some (.ref 52), some (.ref 42), some (.int x2), some (.int x3), some (.int (x4 + (i3 1)))] SI2 SJ2 Q))) : GoV E mt_53 32 [some (.ref 52), some (.ref 42), some (.int x2), some (.int x3), some (.int x4)] SI SJ Q := by
  refine gj_goq gj_clT ok_53 [7, 19, 32, 50, 83] ?_
  show ((SI 42 9) ≤ x4 → gj_Goes E om0 mt_53 56 [some (.ref 52), some (.ref 42), some (.int x2), some (.int x3), some (.int x4)] [] SI SJ (QV Q)) ∧ (¬ (SI 42 9) ≤ x4 → gj_Do E om0 (gj_mt 54) [(.ref 52), (.ref 42), (.int x2), (.int x3), (.int x4)] SI SJ _)
  refine ⟨fun c1 => ?_, fun c1 => ?_⟩
  · refine gj_goq gj_clT ok_53 [7, 19, 32, 50, 83] ?_
    show gj_Goes E om0 mt_53 19 [some (.ref 52), some (.ref 42), some (.int x2), some (.int (x3 + (i3 1))), some (.int x4)] [] SI SJ (QV Q)
    exact gj_fh (h.1 c1) (And.intro (Or.inr rfl) (And.intro (Or.inr rfl) (And.intro (Or.inr rfl) (And.intro (Or.inr rfl) (And.intro (Or.inl rfl) trivial)))))
  · refine gj_Do.mono (h.2 c1) (fun v_ SI2 SJ2 h_ => ?_)
    obtain ⟨rfl, q2⟩ := h_
    show gj_Goes E om0 mt_53 50 [some (.ref 52), some (.ref 42), some (.int x2), some (.int x3), some (.int x4)] [] SI2 SJ2 (QV Q)
    refine gj_goq gj_clT ok_53 [7, 19, 32, 50, 83] ?_
    show gj_Goes E om0 mt_53 32 [some (.ref 52), some (.ref 42), some (.int x2), some (.int x3), some (.int (x4 + (i3 1)))] [] SI2 SJ2 (QV Q)
    exact q2
set_option maxRecDepth 20000 in
theorem st_53_76_66 {E : gj_E} {Q : gj_I → gj_J → Prop} (SI : gj_I) (SJ : gj_J) (h : GoV E mt_53 7 [some (.ref 76), some (.ref 66), some (.int (i3 0)), none, none] (gj_u2 SI 76 2 (i3 0)) SJ Q) : DoV E 53 [(.ref 76), (.ref 66)] SI SJ Q := by
  refine gj_start (M := mt_53) ok_53 (Nat.le_of_ble_eq_true rfl) ?_
  refine gj_goq gj_clT ok_53 [7, 19, 32, 50, 83] ?_
  show gj_Goes E om0 mt_53 7 [some (.ref 76), some (.ref 66), some (.int (i3 0)), none, none] [] (gj_u2 SI 76 2 (i3 0)) SJ (QV Q)
  exact h
set_option maxRecDepth 20000 in
theorem lp_53_7_76_66 {E : gj_E} {Q : gj_I → gj_J → Prop} (x2 : Int32) (SI : gj_I) (SJ : gj_J) (h : ((SI 66 9) ≤ x2 → DoV E 14 [(.ref 77), (.long (SJ 76 6)), (.long (SJ 76 7))] SI SJ (fun SI2 SJ2 => Q SI2 SJ2)) ∧ (¬ (SI 66 9) ≤ x2 → GoV E mt_53 19 [some (.ref 76), some (.ref 66), some (.int x2), some (.int (x2 + (i3 1))), none] SI SJ Q)) : GoV E mt_53 7 [some (.ref 76), some (.ref 66), some (.int x2), none, none] SI SJ Q := by
  refine gj_goq gj_clT ok_53 [7, 19, 32, 50, 83] ?_
  show ((SI 66 9) ≤ x2 → gj_Goes E om0 mt_53 68 [some (.ref 76), some (.ref 66), some (.int x2), none, none] [] SI SJ (QV Q)) ∧ (¬ (SI 66 9) ≤ x2 → gj_Goes E om0 mt_53 19 [some (.ref 76), some (.ref 66), some (.int x2), some (.int (x2 + (i3 1))), none] [] SI SJ (QV Q))
  refine ⟨fun c1 => ?_, fun c1 => ?_⟩
  · refine gj_goq gj_clT ok_53 [7, 19, 32, 50, 83] ?_
    show gj_Do E om0 (gj_mt 14) [(.ref 77), (.long (SJ 76 6)), (.long (SJ 76 7))] SI SJ _
    refine gj_Do.mono (h.1 c1) (fun v_ SI2 SJ2 h_ => ?_)
    obtain ⟨rfl, q2⟩ := h_
    show gj_Goes E om0 mt_53 83 [some (.ref 76), some (.ref 66), some (.int x2), none, none] [] SI2 SJ2 (QV Q)
    refine gj_goq gj_clT ok_53 [7, 19, 32, 50, 83] ?_
    show QV Q none SI2 SJ2
    exact ⟨rfl, q2⟩
  · exact (h.2 c1)
set_option maxRecDepth 20000 in
theorem lp_53_19_76_66 {E : gj_E} {Q : gj_I → gj_J → Prop} (x2 : Int32) (x3 : Int32) (SI : gj_I) (SJ : gj_J) (h : ((SI 66 9) ≤ x3 → GoV E mt_53 7 [some (.ref 76), some (.ref 66), some (.int (x2 + (i3 1))), none, none] SI SJ Q) ∧ (¬ (SI 66 9) ≤ x3 → GoV E mt_53 32 [some (.ref 76), some (.ref 66), some (.int x2), some (.int x3), some (.int (x3 + (i3 1)))] SI SJ Q)) : GoV E mt_53 19 [some (.ref 76), some (.ref 66), some (.int x2), some (.int x3), none] SI SJ Q := by
  refine gj_goq gj_clT ok_53 [7, 19, 32, 50, 83] ?_
  show ((SI 66 9) ≤ x3 → gj_Goes E om0 mt_53 62 [some (.ref 76), some (.ref 66), some (.int x2), some (.int x3), none] [] SI SJ (QV Q)) ∧ (¬ (SI 66 9) ≤ x3 → gj_Goes E om0 mt_53 32 [some (.ref 76), some (.ref 66), some (.int x2), some (.int x3), some (.int (x3 + (i3 1)))] [] SI SJ (QV Q))
  refine ⟨fun c1 => ?_, fun c1 => ?_⟩
  · refine gj_goq gj_clT ok_53 [7, 19, 32, 50, 83] ?_
    show gj_Goes E om0 mt_53 7 [some (.ref 76), some (.ref 66), some (.int (x2 + (i3 1))), some (.int x3), none] [] SI SJ (QV Q)
    exact gj_fh (h.1 c1) (And.intro (Or.inr rfl) (And.intro (Or.inr rfl) (And.intro (Or.inr rfl) (And.intro (Or.inl rfl) (And.intro (Or.inl rfl) trivial)))))
  · exact (h.2 c1)
set_option maxRecDepth 20000 in
theorem lp_53_32_76_66 {E : gj_E} {Q : gj_I → gj_J → Prop} (x2 : Int32) (x3 : Int32) (x4 : Int32) (SI : gj_I) (SJ : gj_J) (h : ((SI 66 9) ≤ x4 → GoV E mt_53 19 [some (.ref 76), some (.ref 66), some (.int x2), some (.int (x3 + (i3 1))), none] SI SJ Q) ∧ (¬ (SI 66 9) ≤ x4 → DoV E 54 [(.ref 76), (.ref 66), (.int x2), (.int x3), (.int x4)] SI SJ (fun SI2 SJ2 => GoV E mt_53 32 [some (.ref 76), some (.ref 66), some (.int x2), some (.int x3), some (.int (x4 + (i3 1)))] SI2 SJ2 Q))) : GoV E mt_53 32 [some (.ref 76), some (.ref 66), some (.int x2), some (.int x3), some (.int x4)] SI SJ Q := by
  refine gj_goq gj_clT ok_53 [7, 19, 32, 50, 83] ?_
  show ((SI 66 9) ≤ x4 → gj_Goes E om0 mt_53 56 [some (.ref 76), some (.ref 66), some (.int x2), some (.int x3), some (.int x4)] [] SI SJ (QV Q)) ∧ (¬ (SI 66 9) ≤ x4 → gj_Do E om0 (gj_mt 54) [(.ref 76), (.ref 66), (.int x2), (.int x3), (.int x4)] SI SJ _)
  refine ⟨fun c1 => ?_, fun c1 => ?_⟩
  · refine gj_goq gj_clT ok_53 [7, 19, 32, 50, 83] ?_
    show gj_Goes E om0 mt_53 19 [some (.ref 76), some (.ref 66), some (.int x2), some (.int (x3 + (i3 1))), some (.int x4)] [] SI SJ (QV Q)
    exact gj_fh (h.1 c1) (And.intro (Or.inr rfl) (And.intro (Or.inr rfl) (And.intro (Or.inr rfl) (And.intro (Or.inr rfl) (And.intro (Or.inl rfl) trivial)))))
  · refine gj_Do.mono (h.2 c1) (fun v_ SI2 SJ2 h_ => ?_)
    obtain ⟨rfl, q2⟩ := h_
    show gj_Goes E om0 mt_53 50 [some (.ref 76), some (.ref 66), some (.int x2), some (.int x3), some (.int x4)] [] SI2 SJ2 (QV Q)
    refine gj_goq gj_clT ok_53 [7, 19, 32, 50, 83] ?_
    show gj_Goes E om0 mt_53 32 [some (.ref 76), some (.ref 66), some (.int x2), some (.int x3), some (.int (x4 + (i3 1)))] [] SI2 SJ2 (QV Q)
    exact q2
set_option maxRecDepth 20000 in
/-- GraspJudge$Sides.consider -/
theorem st_54_52_42 {E : gj_E} {Q : gj_I → gj_J → Prop} (a1 : Int32) (a2 : Int32) (a3 : Int32) (SI : gj_I) (SJ : gj_J) (h : DoI E 2 [(.int a2), (.int a3)] SI SJ (fun r1 SI2 SJ2 => DoL E 7 [(.ref 42), (.int a1), (.int r1)] SI2 SJ2 (fun r3 SI4 SJ4 => (¬ r3 = (i6 0) → DoI E 2 [(.int a1), (.int a2)] SI4 (gj_w2 SJ4 52 11 r3) (fun r5 SI6 SJ6 => DoI E 2 [(.int a1), (.int a3)] SI6 SJ6 (fun r7 SI8 SJ8 => DoI E 287 [(.long (SJ8 52 11))] SI8 SJ8 (fun r9 SI10 SJ10 => vp_in r5 91 ∧ (vp_in r1 91 ∧ (vp_in r7 91 ∧ (DoI E 55 [(.ref 52), (.ref 42)] SI10 (gj_w2 (gj_w2 (gj_w2 (gj_w2 SJ10 52 8 ((r9).toInt64 * (((SJ10 47 (gj_n r5)) + (SJ10 47 (gj_n r1))) - (SJ10 47 (gj_n r7))))) 52 9 ((r9).toInt64 * (((SJ10 48 (gj_n r5)) + (SJ10 48 (gj_n r1))) - (SJ10 48 (gj_n r7))))) 52 10 ((r9).toInt64 * (((SJ10 49 (gj_n r5)) + (SJ10 49 (gj_n r1))) - (SJ10 49 (gj_n r7))))) 52 11 ((r9).toInt64 * (SJ10 52 11))) (fun r11 SI12 SJ12 => (r11 = 0 → Q SI12 SJ12) ∧ (¬ r11 = 0 → DoI E 56 [(.ref 52), (.int r11)] SI12 SJ12 (fun r13 SI14 SJ14 => (r13 = 0 → Q SI14 SJ14) ∧ (¬ r13 = 0 → DoV E 57 [(.ref 52), (.int r11)] SI14 SJ14 (fun SI16 SJ16 => Q SI16 SJ16)))))))))))) ∧ (r3 = (i6 0) → Q SI4 (gj_w2 SJ4 52 11 r3))))) : DoV E 54 [(.ref 52), (.ref 42), (.int a1), (.int a2), (.int a3)] SI SJ Q := by
  refine gj_start (M := mt_54) ok_54 (Nat.le_of_ble_eq_true rfl) ?_
  refine gj_goq gj_clT ok_54 [6, 16, 34, 42, 51, 163, 176, 185] ?_
  show gj_Do E om0 (gj_mt 2) [(.int a2), (.int a3)] SI SJ _
  refine gj_Do.mono h (fun v_ SI2 SJ2 h_ => ?_)
  obtain ⟨r1, rfl, q1⟩ := h_
  show gj_Goes E om0 mt_54 6 [some (.ref 52), some (.ref 42), some (.int a1), some (.int a2), some (.int a3), none, none, none, none, none] [(.int r1)] SI2 SJ2 (QV Q)
  refine gj_goq gj_clT ok_54 [6, 16, 34, 42, 51, 163, 176, 185] ?_
  show gj_Do E om0 (gj_mt 7) [(.ref 42), (.int a1), (.int r1)] SI2 SJ2 _
  refine gj_Do.mono q1 (fun v_ SI4 SJ4 h_ => ?_)
  obtain ⟨r3, rfl, q2⟩ := h_
  show gj_Goes E om0 mt_54 16 [some (.ref 52), some (.ref 42), some (.int a1), some (.int a2), some (.int a3), some (.int r1), none, none, none, none] [(.long r3), (.ref 52)] SI4 SJ4 (QV Q)
  refine gj_goq gj_clT ok_54 [6, 16, 34, 42, 51, 163, 176, 185] ?_
  show (¬ (lg_cmp r3 (i6 0)) = 0 → gj_Goes E om0 mt_54 29 [some (.ref 52), some (.ref 42), some (.int a1), some (.int a2), some (.int a3), some (.int r1), none, none, none, none] [] SI4 (gj_w2 SJ4 52 11 r3) (QV Q)) ∧ ((lg_cmp r3 (i6 0)) = 0 → QV Q none SI4 (gj_w2 SJ4 52 11 r3))
  refine ⟨fun c3 => ?_, fun c3 => ?_⟩
  · refine gj_goq gj_clT ok_54 [6, 16, 34, 42, 51, 163, 176, 185] ?_
    show gj_Do E om0 (gj_mt 2) [(.int a1), (.int a2)] SI4 (gj_w2 SJ4 52 11 r3) _
    refine gj_Do.mono (q2.1 (fun z_ => c3 (lgc_eq.mpr z_))) (fun v_ SI6 SJ6 h_ => ?_)
    obtain ⟨r5, rfl, q4⟩ := h_
    show gj_Goes E om0 mt_54 34 [some (.ref 52), some (.ref 42), some (.int a1), some (.int a2), some (.int a3), some (.int r1), none, none, none, none] [(.int r5)] SI6 SJ6 (QV Q)
    refine gj_goq gj_clT ok_54 [6, 16, 34, 42, 51, 163, 176, 185] ?_
    show gj_Do E om0 (gj_mt 2) [(.int a1), (.int a3)] SI6 SJ6 _
    refine gj_Do.mono q4 (fun v_ SI8 SJ8 h_ => ?_)
    obtain ⟨r7, rfl, q5⟩ := h_
    show gj_Goes E om0 mt_54 42 [some (.ref 52), some (.ref 42), some (.int a1), some (.int a2), some (.int a3), some (.int r1), some (.int r5), none, none, none] [(.int r7)] SI8 SJ8 (QV Q)
    refine gj_goq gj_clT ok_54 [6, 16, 34, 42, 51, 163, 176, 185] ?_
    show gj_Do E om0 (gj_mt 287) [(.long (SJ8 52 11))] SI8 SJ8 _
    refine gj_Do.mono q5 (fun v_ SI10 SJ10 h_ => ?_)
    obtain ⟨r9, rfl, q6⟩ := h_
    show gj_Goes E om0 mt_54 51 [some (.ref 52), some (.ref 42), some (.int a1), some (.int a2), some (.int a3), some (.int r1), some (.int r5), some (.int r7), none, none] [(.int r9)] SI10 SJ10 (QV Q)
    refine gj_goq gj_clT ok_54 [6, 16, 34, 42, 51, 163, 176, 185] ?_
    show vp_in r5 91 ∧ (vp_in r1 91 ∧ (vp_in r7 91 ∧ (vp_in r5 91 ∧ (vp_in r1 91 ∧ (vp_in r7 91 ∧ (vp_in r5 91 ∧ (vp_in r1 91 ∧ (vp_in r7 91 ∧ (gj_Do E om0 (gj_mt 55) [(.ref 52), (.ref 42)] SI10 (gj_w2 (gj_w2 (gj_w2 (gj_w2 SJ10 52 8 ((r9).toInt64 * (((SJ10 47 (gj_n r5)) + (SJ10 47 (gj_n r1))) - (SJ10 47 (gj_n r7))))) 52 9 ((r9).toInt64 * (((SJ10 48 (gj_n r5)) + (SJ10 48 (gj_n r1))) - (SJ10 48 (gj_n r7))))) 52 10 ((r9).toInt64 * (((SJ10 49 (gj_n r5)) + (SJ10 49 (gj_n r1))) - (SJ10 49 (gj_n r7))))) 52 11 ((r9).toInt64 * (SJ10 52 11))) _)))))))))
    have k7 := q6.1
    refine ⟨k7, ?_⟩
    have k8 := q6.2.1
    refine ⟨k8, ?_⟩
    have k9 := q6.2.2.1
    refine ⟨k9, ?_⟩
    refine ⟨k7, ?_⟩
    refine ⟨k8, ?_⟩
    refine ⟨k9, ?_⟩
    refine ⟨k7, ?_⟩
    refine ⟨k8, ?_⟩
    refine ⟨k9, ?_⟩
    refine gj_Do.mono q6.2.2.2 (fun v_ SI12 SJ12 h_ => ?_)
    obtain ⟨r11, rfl, q10⟩ := h_
    show gj_Goes E om0 mt_54 163 [some (.ref 52), some (.ref 42), some (.int a1), some (.int a2), some (.int a3), some (.int r1), some (.int r5), some (.int r7), some (.int r9), none] [(.int r11)] SI12 SJ12 (QV Q)
    refine gj_goq gj_clT ok_54 [6, 16, 34, 42, 51, 163, 176, 185] ?_
    show (r11 = 0 → gj_Goes E om0 mt_54 185 [some (.ref 52), some (.ref 42), some (.int a1), some (.int a2), some (.int a3), some (.int r1), some (.int r5), some (.int r7), some (.int r9), some (.int r11)] [] SI12 SJ12 (QV Q)) ∧ (¬ r11 = 0 → gj_Do E om0 (gj_mt 56) [(.ref 52), (.int r11)] SI12 SJ12 _)
    refine ⟨fun c11 => ?_, fun c11 => ?_⟩
    · refine gj_goq gj_clT ok_54 [6, 16, 34, 42, 51, 163, 176, 185] ?_
      show QV Q none SI12 SJ12
      exact ⟨rfl, (q10.1 c11)⟩
    · refine gj_Do.mono (q10.2 c11) (fun v_ SI14 SJ14 h_ => ?_)
      obtain ⟨r13, rfl, q12⟩ := h_
      show gj_Goes E om0 mt_54 176 [some (.ref 52), some (.ref 42), some (.int a1), some (.int a2), some (.int a3), some (.int r1), some (.int r5), some (.int r7), some (.int r9), some (.int r11)] [(.int r13)] SI14 SJ14 (QV Q)
      refine gj_goq gj_clT ok_54 [6, 16, 34, 42, 51, 163, 176, 185] ?_
      show (r13 = 0 → gj_Goes E om0 mt_54 185 [some (.ref 52), some (.ref 42), some (.int a1), some (.int a2), some (.int a3), some (.int r1), some (.int r5), some (.int r7), some (.int r9), some (.int r11)] [] SI14 SJ14 (QV Q)) ∧ (¬ r13 = 0 → gj_Do E om0 (gj_mt 57) [(.ref 52), (.int r11)] SI14 SJ14 _)
      refine ⟨fun c13 => ?_, fun c13 => ?_⟩
      · refine gj_goq gj_clT ok_54 [6, 16, 34, 42, 51, 163, 176, 185] ?_
        show QV Q none SI14 SJ14
        exact ⟨rfl, (q12.1 c13)⟩
      · refine gj_Do.mono (q12.2 c13) (fun v_ SI16 SJ16 h_ => ?_)
        obtain ⟨rfl, q14⟩ := h_
        show gj_Goes E om0 mt_54 185 [some (.ref 52), some (.ref 42), some (.int a1), some (.int a2), some (.int a3), some (.int r1), some (.int r5), some (.int r7), some (.int r9), some (.int r11)] [] SI16 SJ16 (QV Q)
        refine gj_goq gj_clT ok_54 [6, 16, 34, 42, 51, 163, 176, 185] ?_
        show QV Q none SI16 SJ16
        exact ⟨rfl, q14⟩
  · exact ⟨rfl, (q2.2 (lgc_eq.mp c3))⟩
set_option maxRecDepth 20000 in
theorem st_54_76_66 {E : gj_E} {Q : gj_I → gj_J → Prop} (a1 : Int32) (a2 : Int32) (a3 : Int32) (SI : gj_I) (SJ : gj_J) (h : DoI E 2 [(.int a2), (.int a3)] SI SJ (fun r1 SI2 SJ2 => DoL E 7 [(.ref 66), (.int a1), (.int r1)] SI2 SJ2 (fun r3 SI4 SJ4 => (¬ r3 = (i6 0) → DoI E 2 [(.int a1), (.int a2)] SI4 (gj_w2 SJ4 76 11 r3) (fun r5 SI6 SJ6 => DoI E 2 [(.int a1), (.int a3)] SI6 SJ6 (fun r7 SI8 SJ8 => DoI E 287 [(.long (SJ8 76 11))] SI8 SJ8 (fun r9 SI10 SJ10 => vp_in r5 91 ∧ (vp_in r1 91 ∧ (vp_in r7 91 ∧ (DoI E 55 [(.ref 76), (.ref 66)] SI10 (gj_w2 (gj_w2 (gj_w2 (gj_w2 SJ10 76 8 ((r9).toInt64 * (((SJ10 71 (gj_n r5)) + (SJ10 71 (gj_n r1))) - (SJ10 71 (gj_n r7))))) 76 9 ((r9).toInt64 * (((SJ10 72 (gj_n r5)) + (SJ10 72 (gj_n r1))) - (SJ10 72 (gj_n r7))))) 76 10 ((r9).toInt64 * (((SJ10 73 (gj_n r5)) + (SJ10 73 (gj_n r1))) - (SJ10 73 (gj_n r7))))) 76 11 ((r9).toInt64 * (SJ10 76 11))) (fun r11 SI12 SJ12 => (r11 = 0 → Q SI12 SJ12) ∧ (¬ r11 = 0 → DoI E 56 [(.ref 76), (.int r11)] SI12 SJ12 (fun r13 SI14 SJ14 => (r13 = 0 → Q SI14 SJ14) ∧ (¬ r13 = 0 → DoV E 57 [(.ref 76), (.int r11)] SI14 SJ14 (fun SI16 SJ16 => Q SI16 SJ16)))))))))))) ∧ (r3 = (i6 0) → Q SI4 (gj_w2 SJ4 76 11 r3))))) : DoV E 54 [(.ref 76), (.ref 66), (.int a1), (.int a2), (.int a3)] SI SJ Q := by
  refine gj_start (M := mt_54) ok_54 (Nat.le_of_ble_eq_true rfl) ?_
  refine gj_goq gj_clT ok_54 [6, 16, 34, 42, 51, 163, 176, 185] ?_
  show gj_Do E om0 (gj_mt 2) [(.int a2), (.int a3)] SI SJ _
  refine gj_Do.mono h (fun v_ SI2 SJ2 h_ => ?_)
  obtain ⟨r1, rfl, q1⟩ := h_
  show gj_Goes E om0 mt_54 6 [some (.ref 76), some (.ref 66), some (.int a1), some (.int a2), some (.int a3), none, none, none, none, none] [(.int r1)] SI2 SJ2 (QV Q)
  refine gj_goq gj_clT ok_54 [6, 16, 34, 42, 51, 163, 176, 185] ?_
  show gj_Do E om0 (gj_mt 7) [(.ref 66), (.int a1), (.int r1)] SI2 SJ2 _
  refine gj_Do.mono q1 (fun v_ SI4 SJ4 h_ => ?_)
  obtain ⟨r3, rfl, q2⟩ := h_
  show gj_Goes E om0 mt_54 16 [some (.ref 76), some (.ref 66), some (.int a1), some (.int a2), some (.int a3), some (.int r1), none, none, none, none] [(.long r3), (.ref 76)] SI4 SJ4 (QV Q)
  refine gj_goq gj_clT ok_54 [6, 16, 34, 42, 51, 163, 176, 185] ?_
  show (¬ (lg_cmp r3 (i6 0)) = 0 → gj_Goes E om0 mt_54 29 [some (.ref 76), some (.ref 66), some (.int a1), some (.int a2), some (.int a3), some (.int r1), none, none, none, none] [] SI4 (gj_w2 SJ4 76 11 r3) (QV Q)) ∧ ((lg_cmp r3 (i6 0)) = 0 → QV Q none SI4 (gj_w2 SJ4 76 11 r3))
  refine ⟨fun c3 => ?_, fun c3 => ?_⟩
  · refine gj_goq gj_clT ok_54 [6, 16, 34, 42, 51, 163, 176, 185] ?_
    show gj_Do E om0 (gj_mt 2) [(.int a1), (.int a2)] SI4 (gj_w2 SJ4 76 11 r3) _
    refine gj_Do.mono (q2.1 (fun z_ => c3 (lgc_eq.mpr z_))) (fun v_ SI6 SJ6 h_ => ?_)
    obtain ⟨r5, rfl, q4⟩ := h_
    show gj_Goes E om0 mt_54 34 [some (.ref 76), some (.ref 66), some (.int a1), some (.int a2), some (.int a3), some (.int r1), none, none, none, none] [(.int r5)] SI6 SJ6 (QV Q)
    refine gj_goq gj_clT ok_54 [6, 16, 34, 42, 51, 163, 176, 185] ?_
    show gj_Do E om0 (gj_mt 2) [(.int a1), (.int a3)] SI6 SJ6 _
    refine gj_Do.mono q4 (fun v_ SI8 SJ8 h_ => ?_)
    obtain ⟨r7, rfl, q5⟩ := h_
    show gj_Goes E om0 mt_54 42 [some (.ref 76), some (.ref 66), some (.int a1), some (.int a2), some (.int a3), some (.int r1), some (.int r5), none, none, none] [(.int r7)] SI8 SJ8 (QV Q)
    refine gj_goq gj_clT ok_54 [6, 16, 34, 42, 51, 163, 176, 185] ?_
    show gj_Do E om0 (gj_mt 287) [(.long (SJ8 76 11))] SI8 SJ8 _
    refine gj_Do.mono q5 (fun v_ SI10 SJ10 h_ => ?_)
    obtain ⟨r9, rfl, q6⟩ := h_
    show gj_Goes E om0 mt_54 51 [some (.ref 76), some (.ref 66), some (.int a1), some (.int a2), some (.int a3), some (.int r1), some (.int r5), some (.int r7), none, none] [(.int r9)] SI10 SJ10 (QV Q)
    refine gj_goq gj_clT ok_54 [6, 16, 34, 42, 51, 163, 176, 185] ?_
    show vp_in r5 91 ∧ (vp_in r1 91 ∧ (vp_in r7 91 ∧ (vp_in r5 91 ∧ (vp_in r1 91 ∧ (vp_in r7 91 ∧ (vp_in r5 91 ∧ (vp_in r1 91 ∧ (vp_in r7 91 ∧ (gj_Do E om0 (gj_mt 55) [(.ref 76), (.ref 66)] SI10 (gj_w2 (gj_w2 (gj_w2 (gj_w2 SJ10 76 8 ((r9).toInt64 * (((SJ10 71 (gj_n r5)) + (SJ10 71 (gj_n r1))) - (SJ10 71 (gj_n r7))))) 76 9 ((r9).toInt64 * (((SJ10 72 (gj_n r5)) + (SJ10 72 (gj_n r1))) - (SJ10 72 (gj_n r7))))) 76 10 ((r9).toInt64 * (((SJ10 73 (gj_n r5)) + (SJ10 73 (gj_n r1))) - (SJ10 73 (gj_n r7))))) 76 11 ((r9).toInt64 * (SJ10 76 11))) _)))))))))
    have k7 := q6.1
    refine ⟨k7, ?_⟩
    have k8 := q6.2.1
    refine ⟨k8, ?_⟩
    have k9 := q6.2.2.1
    refine ⟨k9, ?_⟩
    refine ⟨k7, ?_⟩
    refine ⟨k8, ?_⟩
    refine ⟨k9, ?_⟩
    refine ⟨k7, ?_⟩
    refine ⟨k8, ?_⟩
    refine ⟨k9, ?_⟩
    refine gj_Do.mono q6.2.2.2 (fun v_ SI12 SJ12 h_ => ?_)
    obtain ⟨r11, rfl, q10⟩ := h_
    show gj_Goes E om0 mt_54 163 [some (.ref 76), some (.ref 66), some (.int a1), some (.int a2), some (.int a3), some (.int r1), some (.int r5), some (.int r7), some (.int r9), none] [(.int r11)] SI12 SJ12 (QV Q)
    refine gj_goq gj_clT ok_54 [6, 16, 34, 42, 51, 163, 176, 185] ?_
    show (r11 = 0 → gj_Goes E om0 mt_54 185 [some (.ref 76), some (.ref 66), some (.int a1), some (.int a2), some (.int a3), some (.int r1), some (.int r5), some (.int r7), some (.int r9), some (.int r11)] [] SI12 SJ12 (QV Q)) ∧ (¬ r11 = 0 → gj_Do E om0 (gj_mt 56) [(.ref 76), (.int r11)] SI12 SJ12 _)
    refine ⟨fun c11 => ?_, fun c11 => ?_⟩
    · refine gj_goq gj_clT ok_54 [6, 16, 34, 42, 51, 163, 176, 185] ?_
      show QV Q none SI12 SJ12
      exact ⟨rfl, (q10.1 c11)⟩
    · refine gj_Do.mono (q10.2 c11) (fun v_ SI14 SJ14 h_ => ?_)
      obtain ⟨r13, rfl, q12⟩ := h_
      show gj_Goes E om0 mt_54 176 [some (.ref 76), some (.ref 66), some (.int a1), some (.int a2), some (.int a3), some (.int r1), some (.int r5), some (.int r7), some (.int r9), some (.int r11)] [(.int r13)] SI14 SJ14 (QV Q)
      refine gj_goq gj_clT ok_54 [6, 16, 34, 42, 51, 163, 176, 185] ?_
      show (r13 = 0 → gj_Goes E om0 mt_54 185 [some (.ref 76), some (.ref 66), some (.int a1), some (.int a2), some (.int a3), some (.int r1), some (.int r5), some (.int r7), some (.int r9), some (.int r11)] [] SI14 SJ14 (QV Q)) ∧ (¬ r13 = 0 → gj_Do E om0 (gj_mt 57) [(.ref 76), (.int r11)] SI14 SJ14 _)
      refine ⟨fun c13 => ?_, fun c13 => ?_⟩
      · refine gj_goq gj_clT ok_54 [6, 16, 34, 42, 51, 163, 176, 185] ?_
        show QV Q none SI14 SJ14
        exact ⟨rfl, (q12.1 c13)⟩
      · refine gj_Do.mono (q12.2 c13) (fun v_ SI16 SJ16 h_ => ?_)
        obtain ⟨rfl, q14⟩ := h_
        show gj_Goes E om0 mt_54 185 [some (.ref 76), some (.ref 66), some (.int a1), some (.int a2), some (.int a3), some (.int r1), some (.int r5), some (.int r7), some (.int r9), some (.int r11)] [] SI16 SJ16 (QV Q)
        refine gj_goq gj_clT ok_54 [6, 16, 34, 42, 51, 163, 176, 185] ?_
        show QV Q none SI16 SJ16
        exact ⟨rfl, q14⟩
  · exact ⟨rfl, (q2.2 (lgc_eq.mp c3))⟩
set_option maxRecDepth 20000 in
/-- GraspJudge$Sides.touched -/
theorem st_55_52_42 {E : gj_E} {Q : Int32 → gj_I → gj_J → Prop} (SI : gj_I) (SJ : gj_J) (h : GoI E mt_55 4 [some (.ref 52), some (.ref 42), some (.int (i3 0)), some (.int (i3 0)), none, none] SI SJ Q) : DoI E 55 [(.ref 52), (.ref 42)] SI SJ Q := by
  refine gj_start (M := mt_55) ok_55 (Nat.le_of_ble_eq_true rfl) ?_
  refine gj_goq gj_clT ok_55 [4] ?_
  show gj_Goes E om0 mt_55 4 [some (.ref 52), some (.ref 42), some (.int (i3 0)), some (.int (i3 0)), none, none] [] SI SJ (QI Q)
  exact h
set_option maxRecDepth 20000 in
theorem lp_55_4_52_42 {E : gj_E} {Q : Int32 → gj_I → gj_J → Prop} (x2 : Int32) (x3 : Int32) (SI : gj_I) (SJ : gj_J) (h : ((SI 42 9) ≤ x3 → Q x2 SI SJ) ∧ (¬ (SI 42 9) ≤ x3 → vp_in x3 14 ∧ ((((((SJ 43 (gj_n x3)) * (SJ 52 8)) + ((SJ 44 (gj_n x3)) * (SJ 52 9))) + ((SJ 45 (gj_n x3)) * (SJ 52 10))) ≤ (SJ 52 11) → (¬ ((((SJ 43 (gj_n x3)) * (SJ 52 8)) + ((SJ 44 (gj_n x3)) * (SJ 52 9))) + ((SJ 45 (gj_n x3)) * (SJ 52 10))) = (SJ 52 11) → GoI E mt_55 4 [some (.ref 52), some (.ref 42), some (.int x2), some (.int (x3 + (i3 1))), none, none] SI SJ Q) ∧ (((((SJ 43 (gj_n x3)) * (SJ 52 8)) + ((SJ 44 (gj_n x3)) * (SJ 52 9))) + ((SJ 45 (gj_n x3)) * (SJ 52 10))) = (SJ 52 11) → GoI E mt_55 4 [some (.ref 52), some (.ref 42), some (.int (x2 ||| ((i3 1) <<< (x3 &&& 31)))), some (.int (x3 + (i3 1))), none, none] SI SJ Q)) ∧ (¬ ((((SJ 43 (gj_n x3)) * (SJ 52 8)) + ((SJ 44 (gj_n x3)) * (SJ 52 9))) + ((SJ 45 (gj_n x3)) * (SJ 52 10))) ≤ (SJ 52 11) → Q (i3 0) SI SJ)))) : GoI E mt_55 4 [some (.ref 52), some (.ref 42), some (.int x2), some (.int x3), none, none] SI SJ Q := by
  refine gj_goq gj_clT ok_55 [4] ?_
  show ((SI 42 9) ≤ x3 → gj_Goes E om0 mt_55 83 [some (.ref 52), some (.ref 42), some (.int x2), some (.int x3), none, none] [] SI SJ (QI Q)) ∧ (¬ (SI 42 9) ≤ x3 → vp_in x3 14 ∧ (vp_in x3 14 ∧ (vp_in x3 14 ∧ (((lg_cmp ((((SJ 43 (gj_n x3)) * (SJ 52 8)) + ((SJ 44 (gj_n x3)) * (SJ 52 9))) + ((SJ 45 (gj_n x3)) * (SJ 52 10))) (SJ 52 11)) ≤ 0 → gj_Goes E om0 mt_55 61 [some (.ref 52), some (.ref 42), some (.int x2), some (.int x3), some (.long ((((SJ 43 (gj_n x3)) * (SJ 52 8)) + ((SJ 44 (gj_n x3)) * (SJ 52 9))) + ((SJ 45 (gj_n x3)) * (SJ 52 10)))), none] [] SI SJ (QI Q)) ∧ (¬ (lg_cmp ((((SJ 43 (gj_n x3)) * (SJ 52 8)) + ((SJ 44 (gj_n x3)) * (SJ 52 9))) + ((SJ 45 (gj_n x3)) * (SJ 52 10))) (SJ 52 11)) ≤ 0 → QI Q (some (.int (i3 0))) SI SJ)))))
  refine ⟨fun c1 => ?_, fun c1 => ?_⟩
  · refine gj_goq gj_clT ok_55 [4] ?_
    show QI Q (some (.int x2)) SI SJ
    exact ⟨_, rfl, (h.1 c1)⟩
  · have k2 := (h.2 c1).1
    refine ⟨k2, ?_⟩
    refine ⟨k2, ?_⟩
    refine ⟨k2, ?_⟩
    refine ⟨fun c3 => ?_, fun c3 => ?_⟩
    · refine gj_goq gj_clT ok_55 [4] ?_
      show (¬ (lg_cmp ((((SJ 43 (gj_n x3)) * (SJ 52 8)) + ((SJ 44 (gj_n x3)) * (SJ 52 9))) + ((SJ 45 (gj_n x3)) * (SJ 52 10))) (SJ 52 11)) = 0 → gj_Goes E om0 mt_55 77 [some (.ref 52), some (.ref 42), some (.int x2), some (.int x3), some (.long ((((SJ 43 (gj_n x3)) * (SJ 52 8)) + ((SJ 44 (gj_n x3)) * (SJ 52 9))) + ((SJ 45 (gj_n x3)) * (SJ 52 10)))), none] [] SI SJ (QI Q)) ∧ ((lg_cmp ((((SJ 43 (gj_n x3)) * (SJ 52 8)) + ((SJ 44 (gj_n x3)) * (SJ 52 9))) + ((SJ 45 (gj_n x3)) * (SJ 52 10))) (SJ 52 11)) = 0 → gj_Goes E om0 mt_55 4 [some (.ref 52), some (.ref 42), some (.int (x2 ||| ((i3 1) <<< (x3 &&& 31)))), some (.int (x3 + (i3 1))), some (.long ((((SJ 43 (gj_n x3)) * (SJ 52 8)) + ((SJ 44 (gj_n x3)) * (SJ 52 9))) + ((SJ 45 (gj_n x3)) * (SJ 52 10)))), none] [] SI SJ (QI Q))
      refine ⟨fun c4 => ?_, fun c4 => ?_⟩
      · refine gj_goq gj_clT ok_55 [4] ?_
        show gj_Goes E om0 mt_55 4 [some (.ref 52), some (.ref 42), some (.int x2), some (.int (x3 + (i3 1))), some (.long ((((SJ 43 (gj_n x3)) * (SJ 52 8)) + ((SJ 44 (gj_n x3)) * (SJ 52 9))) + ((SJ 45 (gj_n x3)) * (SJ 52 10)))), none] [] SI SJ (QI Q)
        exact gj_fh (((h.2 c1).2.1 (lgc_le.mp c3)).1 (fun z_ => c4 (lgc_eq.mpr z_))) (And.intro (Or.inr rfl) (And.intro (Or.inr rfl) (And.intro (Or.inr rfl) (And.intro (Or.inr rfl) (And.intro (Or.inl rfl) (And.intro (Or.inl rfl) trivial))))))
      · exact gj_fh (((h.2 c1).2.1 (lgc_le.mp c3)).2 (lgc_eq.mp c4)) (And.intro (Or.inr rfl) (And.intro (Or.inr rfl) (And.intro (Or.inr rfl) (And.intro (Or.inr rfl) (And.intro (Or.inl rfl) (And.intro (Or.inl rfl) trivial))))))
    · exact ⟨_, rfl, ((h.2 c1).2.2 (fun z_ => c3 (lgc_le.mpr z_)))⟩
set_option maxRecDepth 20000 in
theorem st_55_76_66 {E : gj_E} {Q : Int32 → gj_I → gj_J → Prop} (SI : gj_I) (SJ : gj_J) (h : GoI E mt_55 4 [some (.ref 76), some (.ref 66), some (.int (i3 0)), some (.int (i3 0)), none, none] SI SJ Q) : DoI E 55 [(.ref 76), (.ref 66)] SI SJ Q := by
  refine gj_start (M := mt_55) ok_55 (Nat.le_of_ble_eq_true rfl) ?_
  refine gj_goq gj_clT ok_55 [4] ?_
  show gj_Goes E om0 mt_55 4 [some (.ref 76), some (.ref 66), some (.int (i3 0)), some (.int (i3 0)), none, none] [] SI SJ (QI Q)
  exact h
set_option maxRecDepth 20000 in
theorem lp_55_4_76_66 {E : gj_E} {Q : Int32 → gj_I → gj_J → Prop} (x2 : Int32) (x3 : Int32) (SI : gj_I) (SJ : gj_J) (h : ((SI 66 9) ≤ x3 → Q x2 SI SJ) ∧ (¬ (SI 66 9) ≤ x3 → vp_in x3 14 ∧ ((((((SJ 67 (gj_n x3)) * (SJ 76 8)) + ((SJ 68 (gj_n x3)) * (SJ 76 9))) + ((SJ 69 (gj_n x3)) * (SJ 76 10))) ≤ (SJ 76 11) → (¬ ((((SJ 67 (gj_n x3)) * (SJ 76 8)) + ((SJ 68 (gj_n x3)) * (SJ 76 9))) + ((SJ 69 (gj_n x3)) * (SJ 76 10))) = (SJ 76 11) → GoI E mt_55 4 [some (.ref 76), some (.ref 66), some (.int x2), some (.int (x3 + (i3 1))), none, none] SI SJ Q) ∧ (((((SJ 67 (gj_n x3)) * (SJ 76 8)) + ((SJ 68 (gj_n x3)) * (SJ 76 9))) + ((SJ 69 (gj_n x3)) * (SJ 76 10))) = (SJ 76 11) → GoI E mt_55 4 [some (.ref 76), some (.ref 66), some (.int (x2 ||| ((i3 1) <<< (x3 &&& 31)))), some (.int (x3 + (i3 1))), none, none] SI SJ Q)) ∧ (¬ ((((SJ 67 (gj_n x3)) * (SJ 76 8)) + ((SJ 68 (gj_n x3)) * (SJ 76 9))) + ((SJ 69 (gj_n x3)) * (SJ 76 10))) ≤ (SJ 76 11) → Q (i3 0) SI SJ)))) : GoI E mt_55 4 [some (.ref 76), some (.ref 66), some (.int x2), some (.int x3), none, none] SI SJ Q := by
  refine gj_goq gj_clT ok_55 [4] ?_
  show ((SI 66 9) ≤ x3 → gj_Goes E om0 mt_55 83 [some (.ref 76), some (.ref 66), some (.int x2), some (.int x3), none, none] [] SI SJ (QI Q)) ∧ (¬ (SI 66 9) ≤ x3 → vp_in x3 14 ∧ (vp_in x3 14 ∧ (vp_in x3 14 ∧ (((lg_cmp ((((SJ 67 (gj_n x3)) * (SJ 76 8)) + ((SJ 68 (gj_n x3)) * (SJ 76 9))) + ((SJ 69 (gj_n x3)) * (SJ 76 10))) (SJ 76 11)) ≤ 0 → gj_Goes E om0 mt_55 61 [some (.ref 76), some (.ref 66), some (.int x2), some (.int x3), some (.long ((((SJ 67 (gj_n x3)) * (SJ 76 8)) + ((SJ 68 (gj_n x3)) * (SJ 76 9))) + ((SJ 69 (gj_n x3)) * (SJ 76 10)))), none] [] SI SJ (QI Q)) ∧ (¬ (lg_cmp ((((SJ 67 (gj_n x3)) * (SJ 76 8)) + ((SJ 68 (gj_n x3)) * (SJ 76 9))) + ((SJ 69 (gj_n x3)) * (SJ 76 10))) (SJ 76 11)) ≤ 0 → QI Q (some (.int (i3 0))) SI SJ)))))
  refine ⟨fun c1 => ?_, fun c1 => ?_⟩
  · refine gj_goq gj_clT ok_55 [4] ?_
    show QI Q (some (.int x2)) SI SJ
    exact ⟨_, rfl, (h.1 c1)⟩
  · have k2 := (h.2 c1).1
    refine ⟨k2, ?_⟩
    refine ⟨k2, ?_⟩
    refine ⟨k2, ?_⟩
    refine ⟨fun c3 => ?_, fun c3 => ?_⟩
    · refine gj_goq gj_clT ok_55 [4] ?_
      show (¬ (lg_cmp ((((SJ 67 (gj_n x3)) * (SJ 76 8)) + ((SJ 68 (gj_n x3)) * (SJ 76 9))) + ((SJ 69 (gj_n x3)) * (SJ 76 10))) (SJ 76 11)) = 0 → gj_Goes E om0 mt_55 77 [some (.ref 76), some (.ref 66), some (.int x2), some (.int x3), some (.long ((((SJ 67 (gj_n x3)) * (SJ 76 8)) + ((SJ 68 (gj_n x3)) * (SJ 76 9))) + ((SJ 69 (gj_n x3)) * (SJ 76 10)))), none] [] SI SJ (QI Q)) ∧ ((lg_cmp ((((SJ 67 (gj_n x3)) * (SJ 76 8)) + ((SJ 68 (gj_n x3)) * (SJ 76 9))) + ((SJ 69 (gj_n x3)) * (SJ 76 10))) (SJ 76 11)) = 0 → gj_Goes E om0 mt_55 4 [some (.ref 76), some (.ref 66), some (.int (x2 ||| ((i3 1) <<< (x3 &&& 31)))), some (.int (x3 + (i3 1))), some (.long ((((SJ 67 (gj_n x3)) * (SJ 76 8)) + ((SJ 68 (gj_n x3)) * (SJ 76 9))) + ((SJ 69 (gj_n x3)) * (SJ 76 10)))), none] [] SI SJ (QI Q))
      refine ⟨fun c4 => ?_, fun c4 => ?_⟩
      · refine gj_goq gj_clT ok_55 [4] ?_
        show gj_Goes E om0 mt_55 4 [some (.ref 76), some (.ref 66), some (.int x2), some (.int (x3 + (i3 1))), some (.long ((((SJ 67 (gj_n x3)) * (SJ 76 8)) + ((SJ 68 (gj_n x3)) * (SJ 76 9))) + ((SJ 69 (gj_n x3)) * (SJ 76 10)))), none] [] SI SJ (QI Q)
        exact gj_fh (((h.2 c1).2.1 (lgc_le.mp c3)).1 (fun z_ => c4 (lgc_eq.mpr z_))) (And.intro (Or.inr rfl) (And.intro (Or.inr rfl) (And.intro (Or.inr rfl) (And.intro (Or.inr rfl) (And.intro (Or.inl rfl) (And.intro (Or.inl rfl) trivial))))))
      · exact gj_fh (((h.2 c1).2.1 (lgc_le.mp c3)).2 (lgc_eq.mp c4)) (And.intro (Or.inr rfl) (And.intro (Or.inr rfl) (And.intro (Or.inr rfl) (And.intro (Or.inr rfl) (And.intro (Or.inl rfl) (And.intro (Or.inl rfl) trivial))))))
    · exact ⟨_, rfl, ((h.2 c1).2.2 (fun z_ => c3 (lgc_le.mpr z_)))⟩
set_option maxRecDepth 20000 in
/-- GraspJudge$Sides.isNew -/
theorem st_56_52 {E : gj_E} {Q : Int32 → gj_I → gj_J → Prop} (a1 : Int32) (SI : gj_I) (SJ : gj_J) (h : GoI E mt_56 2 [some (.ref 52), some (.int a1), some (.int (i3 0))] SI SJ Q) : DoI E 56 [(.ref 52), (.int a1)] SI SJ Q := by
  refine gj_start (M := mt_56) ok_56 (Nat.le_of_ble_eq_true rfl) ?_
  refine gj_goq gj_clT ok_56 [2] ?_
  show gj_Goes E om0 mt_56 2 [some (.ref 52), some (.int a1), some (.int (i3 0))] [] SI SJ (QI Q)
  exact h
set_option maxRecDepth 20000 in
theorem lp_56_2_52 {E : gj_E} {Q : Int32 → gj_I → gj_J → Prop} (x1 : Int32) (x2 : Int32) (SI : gj_I) (SJ : gj_J) (h : ((SI 52 2) ≤ x2 → ((i3 24) ≤ (SI 52 2) → Q (i3 0) SI SJ) ∧ (¬ (i3 24) ≤ (SI 52 2) → Q (i3 1) SI SJ)) ∧ (¬ (SI 52 2) ≤ x2 → vp_in x2 24 ∧ ((¬ (SI 54 (gj_n x2)) = x1 → GoI E mt_56 2 [some (.ref 52), some (.int x1), some (.int (x2 + (i3 1)))] SI SJ Q) ∧ ((SI 54 (gj_n x2)) = x1 → Q (i3 0) SI SJ)))) : GoI E mt_56 2 [some (.ref 52), some (.int x1), some (.int x2)] SI SJ Q := by
  refine gj_goq gj_clT ok_56 [2] ?_
  show ((SI 52 2) ≤ x2 → gj_Goes E om0 mt_56 28 [some (.ref 52), some (.int x1), some (.int x2)] [] SI SJ (QI Q)) ∧ (¬ (SI 52 2) ≤ x2 → vp_in x2 24 ∧ ((¬ (SI 54 (gj_n x2)) = x1 → gj_Goes E om0 mt_56 22 [some (.ref 52), some (.int x1), some (.int x2)] [] SI SJ (QI Q)) ∧ ((SI 54 (gj_n x2)) = x1 → ((i3 0) = 0 ∨ (i3 0) = 1) ∧ (QI Q (some (.int (i3 0))) SI SJ))))
  refine ⟨fun c1 => ?_, fun c1 => ?_⟩
  · refine gj_goq gj_clT ok_56 [2] ?_
    show ((i3 24) ≤ (SI 52 2) → gj_Goes E om0 mt_56 41 [some (.ref 52), some (.int x1), some (.int x2)] [] SI SJ (QI Q)) ∧ (¬ (i3 24) ≤ (SI 52 2) → gj_Goes E om0 mt_56 42 [some (.ref 52), some (.int x1), some (.int x2)] [(.int (i3 1))] SI SJ (QI Q))
    refine ⟨fun c2 => ?_, fun c2 => ?_⟩
    · refine gj_goq gj_clT ok_56 [2] ?_
      show ((i3 0) = 0 ∨ (i3 0) = 1) ∧ (QI Q (some (.int (i3 0))) SI SJ)
      refine ⟨(Or.inl rfl), ?_⟩
      exact ⟨_, rfl, ((h.1 c1).1 c2)⟩
    · refine gj_goq gj_clT ok_56 [2] ?_
      show ((i3 1) = 0 ∨ (i3 1) = 1) ∧ (QI Q (some (.int (i3 1))) SI SJ)
      refine ⟨(Or.inr rfl), ?_⟩
      exact ⟨_, rfl, ((h.1 c1).2 c2)⟩
  · have k3 := (h.2 c1).1
    refine ⟨k3, ?_⟩
    refine ⟨fun c4 => ?_, fun c4 => ?_⟩
    · refine gj_goq gj_clT ok_56 [2] ?_
      show gj_Goes E om0 mt_56 2 [some (.ref 52), some (.int x1), some (.int (x2 + (i3 1)))] [] SI SJ (QI Q)
      exact ((h.2 c1).2.1 c4)
    · refine ⟨(Or.inl rfl), ?_⟩
      exact ⟨_, rfl, ((h.2 c1).2.2 c4)⟩
set_option maxRecDepth 20000 in
theorem st_56_76 {E : gj_E} {Q : Int32 → gj_I → gj_J → Prop} (a1 : Int32) (SI : gj_I) (SJ : gj_J) (h : GoI E mt_56 2 [some (.ref 76), some (.int a1), some (.int (i3 0))] SI SJ Q) : DoI E 56 [(.ref 76), (.int a1)] SI SJ Q := by
  refine gj_start (M := mt_56) ok_56 (Nat.le_of_ble_eq_true rfl) ?_
  refine gj_goq gj_clT ok_56 [2] ?_
  show gj_Goes E om0 mt_56 2 [some (.ref 76), some (.int a1), some (.int (i3 0))] [] SI SJ (QI Q)
  exact h
set_option maxRecDepth 20000 in
theorem lp_56_2_76 {E : gj_E} {Q : Int32 → gj_I → gj_J → Prop} (x1 : Int32) (x2 : Int32) (SI : gj_I) (SJ : gj_J) (h : ((SI 76 2) ≤ x2 → ((i3 24) ≤ (SI 76 2) → Q (i3 0) SI SJ) ∧ (¬ (i3 24) ≤ (SI 76 2) → Q (i3 1) SI SJ)) ∧ (¬ (SI 76 2) ≤ x2 → vp_in x2 24 ∧ ((¬ (SI 78 (gj_n x2)) = x1 → GoI E mt_56 2 [some (.ref 76), some (.int x1), some (.int (x2 + (i3 1)))] SI SJ Q) ∧ ((SI 78 (gj_n x2)) = x1 → Q (i3 0) SI SJ)))) : GoI E mt_56 2 [some (.ref 76), some (.int x1), some (.int x2)] SI SJ Q := by
  refine gj_goq gj_clT ok_56 [2] ?_
  show ((SI 76 2) ≤ x2 → gj_Goes E om0 mt_56 28 [some (.ref 76), some (.int x1), some (.int x2)] [] SI SJ (QI Q)) ∧ (¬ (SI 76 2) ≤ x2 → vp_in x2 24 ∧ ((¬ (SI 78 (gj_n x2)) = x1 → gj_Goes E om0 mt_56 22 [some (.ref 76), some (.int x1), some (.int x2)] [] SI SJ (QI Q)) ∧ ((SI 78 (gj_n x2)) = x1 → ((i3 0) = 0 ∨ (i3 0) = 1) ∧ (QI Q (some (.int (i3 0))) SI SJ))))
  refine ⟨fun c1 => ?_, fun c1 => ?_⟩
  · refine gj_goq gj_clT ok_56 [2] ?_
    show ((i3 24) ≤ (SI 76 2) → gj_Goes E om0 mt_56 41 [some (.ref 76), some (.int x1), some (.int x2)] [] SI SJ (QI Q)) ∧ (¬ (i3 24) ≤ (SI 76 2) → gj_Goes E om0 mt_56 42 [some (.ref 76), some (.int x1), some (.int x2)] [(.int (i3 1))] SI SJ (QI Q))
    refine ⟨fun c2 => ?_, fun c2 => ?_⟩
    · refine gj_goq gj_clT ok_56 [2] ?_
      show ((i3 0) = 0 ∨ (i3 0) = 1) ∧ (QI Q (some (.int (i3 0))) SI SJ)
      refine ⟨(Or.inl rfl), ?_⟩
      exact ⟨_, rfl, ((h.1 c1).1 c2)⟩
    · refine gj_goq gj_clT ok_56 [2] ?_
      show ((i3 1) = 0 ∨ (i3 1) = 1) ∧ (QI Q (some (.int (i3 1))) SI SJ)
      refine ⟨(Or.inr rfl), ?_⟩
      exact ⟨_, rfl, ((h.1 c1).2 c2)⟩
  · have k3 := (h.2 c1).1
    refine ⟨k3, ?_⟩
    refine ⟨fun c4 => ?_, fun c4 => ?_⟩
    · refine gj_goq gj_clT ok_56 [2] ?_
      show gj_Goes E om0 mt_56 2 [some (.ref 76), some (.int x1), some (.int (x2 + (i3 1)))] [] SI SJ (QI Q)
      exact ((h.2 c1).2.1 c4)
    · refine ⟨(Or.inl rfl), ?_⟩
      exact ⟨_, rfl, ((h.2 c1).2.2 c4)⟩
set_option maxRecDepth 20000 in
/-- GraspJudge$Sides.note -/
theorem st_57_52 {E : gj_E} {Q : gj_I → gj_J → Prop} (a1 : Int32) (SI : gj_I) (SJ : gj_J) (h : DoL E 154 [(.long (SJ 52 9)), (.long (SJ 52 10))] SI SJ (fun r1 SI2 SJ2 => DoL E 154 [(.long (SJ 52 8)), (.long r1)] SI2 SJ2 (fun r3 SI4 SJ4 => (¬ r3 = (i6 0) → ¬ r3 = 0 ∧ (((SI4 52 2) = 0 → vp_in (SI4 52 2) 24 ∧ (Q (gj_u2 (gj_u2 SI4 54 (gj_n (SI4 52 2)) a1) 52 2 ((SI4 52 2) + (i3 1))) (gj_w2 (gj_w2 (gj_w2 (gj_w2 (gj_w2 (gj_w2 (gj_w2 (gj_w2 (gj_w2 (gj_w2 SJ4 52 8 ((SJ4 52 8) / r3)) 52 9 ((SJ4 52 9) / r3)) 52 10 ((SJ4 52 10) / r3)) 52 11 ((SJ4 52 11) / r3)) 52 12 (((if 0 < ((SJ4 52 8) / r3) then ((SJ4 52 8) / r3) else -((SJ4 52 8) / r3)) + (if 0 < ((SJ4 52 9) / r3) then ((SJ4 52 9) / r3) else -((SJ4 52 9) / r3))) + (if 0 < ((SJ4 52 10) / r3) then ((SJ4 52 10) / r3) else -((SJ4 52 10) / r3)))) 52 3 ((SJ4 52 8) / r3)) 52 4 ((SJ4 52 9) / r3)) 52 5 ((SJ4 52 10) / r3)) 52 6 ((SJ4 52 11) / r3)) 52 7 (((if 0 < ((SJ4 52 8) / r3) then ((SJ4 52 8) / r3) else -((SJ4 52 8) / r3)) + (if 0 < ((SJ4 52 9) / r3) then ((SJ4 52 9) / r3) else -((SJ4 52 9) / r3))) + (if 0 < ((SJ4 52 10) / r3) then ((SJ4 52 10) / r3) else -((SJ4 52 10) / r3)))))) ∧ (¬ (SI4 52 2) = 0 → DoI E 58 [(.ref 52)] SI4 (gj_w2 (gj_w2 (gj_w2 (gj_w2 (gj_w2 SJ4 52 8 ((SJ4 52 8) / r3)) 52 9 ((SJ4 52 9) / r3)) 52 10 ((SJ4 52 10) / r3)) 52 11 ((SJ4 52 11) / r3)) 52 12 (((if 0 < ((SJ4 52 8) / r3) then ((SJ4 52 8) / r3) else -((SJ4 52 8) / r3)) + (if 0 < ((SJ4 52 9) / r3) then ((SJ4 52 9) / r3) else -((SJ4 52 9) / r3))) + (if 0 < ((SJ4 52 10) / r3) then ((SJ4 52 10) / r3) else -((SJ4 52 10) / r3)))) (fun r5 SI6 SJ6 => (r5 = 0 → vp_in (SI6 52 2) 24 ∧ (Q (gj_u2 (gj_u2 SI6 54 (gj_n (SI6 52 2)) a1) 52 2 ((SI6 52 2) + (i3 1))) SJ6)) ∧ (¬ r5 = 0 → vp_in (SI6 52 2) 24 ∧ (Q (gj_u2 (gj_u2 SI6 54 (gj_n (SI6 52 2)) a1) 52 2 ((SI6 52 2) + (i3 1))) (gj_w2 (gj_w2 (gj_w2 (gj_w2 (gj_w2 SJ6 52 3 (SJ6 52 8)) 52 4 (SJ6 52 9)) 52 5 (SJ6 52 10)) 52 6 (SJ6 52 11)) 52 7 (SJ6 52 12)))))))) ∧ (r3 = (i6 0) → Q SI4 SJ4)))) : DoV E 57 [(.ref 52), (.int a1)] SI SJ Q := by
  refine gj_start (M := mt_57) ok_57 (Nat.le_of_ble_eq_true rfl) ?_
  refine gj_goq gj_clT ok_57 [15, 18, 104] ?_
  show gj_Do E om0 (gj_mt 154) [(.long (SJ 52 9)), (.long (SJ 52 10))] SI SJ _
  refine gj_Do.mono h (fun v_ SI2 SJ2 h_ => ?_)
  obtain ⟨r1, rfl, q1⟩ := h_
  show gj_Goes E om0 mt_57 15 [some (.ref 52), some (.int a1), none, none] [(.long r1), (.long (SJ 52 8))] SI2 SJ2 (QV Q)
  refine gj_goq gj_clT ok_57 [15, 18, 104] ?_
  show gj_Do E om0 (gj_mt 154) [(.long (SJ 52 8)), (.long r1)] SI2 SJ2 _
  refine gj_Do.mono q1 (fun v_ SI4 SJ4 h_ => ?_)
  obtain ⟨r3, rfl, q2⟩ := h_
  show gj_Goes E om0 mt_57 18 [some (.ref 52), some (.int a1), none, none] [(.long r3)] SI4 SJ4 (QV Q)
  refine gj_goq gj_clT ok_57 [15, 18, 104] ?_
  show (¬ (lg_cmp r3 (i6 0)) = 0 → gj_Goes E om0 mt_57 26 [some (.ref 52), some (.int a1), some (.long r3), none] [] SI4 SJ4 (QV Q)) ∧ ((lg_cmp r3 (i6 0)) = 0 → QV Q none SI4 SJ4)
  refine ⟨fun c3 => ?_, fun c3 => ?_⟩
  · refine gj_goq gj_clT ok_57 [15, 18, 104] ?_
    show ¬ r3 = 0 ∧ (¬ r3 = 0 ∧ (¬ r3 = 0 ∧ (¬ r3 = 0 ∧ (((SI4 52 2) = 0 → gj_Goes E om0 mt_57 107 [some (.ref 52), some (.int a1), some (.long r3), none] [] SI4 (gj_w2 (gj_w2 (gj_w2 (gj_w2 (gj_w2 SJ4 52 8 ((SJ4 52 8) / r3)) 52 9 ((SJ4 52 9) / r3)) 52 10 ((SJ4 52 10) / r3)) 52 11 ((SJ4 52 11) / r3)) 52 12 (((if 0 < ((SJ4 52 8) / r3) then ((SJ4 52 8) / r3) else -((SJ4 52 8) / r3)) + (if 0 < ((SJ4 52 9) / r3) then ((SJ4 52 9) / r3) else -((SJ4 52 9) / r3))) + (if 0 < ((SJ4 52 10) / r3) then ((SJ4 52 10) / r3) else -((SJ4 52 10) / r3)))) (QV Q)) ∧ (¬ (SI4 52 2) = 0 → gj_Do E om0 (gj_mt 58) [(.ref 52)] SI4 (gj_w2 (gj_w2 (gj_w2 (gj_w2 (gj_w2 SJ4 52 8 ((SJ4 52 8) / r3)) 52 9 ((SJ4 52 9) / r3)) 52 10 ((SJ4 52 10) / r3)) 52 11 ((SJ4 52 11) / r3)) 52 12 (((if 0 < ((SJ4 52 8) / r3) then ((SJ4 52 8) / r3) else -((SJ4 52 8) / r3)) + (if 0 < ((SJ4 52 9) / r3) then ((SJ4 52 9) / r3) else -((SJ4 52 9) / r3))) + (if 0 < ((SJ4 52 10) / r3) then ((SJ4 52 10) / r3) else -((SJ4 52 10) / r3)))) _)))))
    have k4 := (q2.1 (fun z_ => c3 (lgc_eq.mpr z_))).1
    refine ⟨k4, ?_⟩
    refine ⟨k4, ?_⟩
    refine ⟨k4, ?_⟩
    refine ⟨k4, ?_⟩
    refine ⟨fun c5 => ?_, fun c5 => ?_⟩
    · refine gj_goq gj_clT ok_57 [15, 18, 104] ?_
      show vp_in (SI4 52 2) 24 ∧ (QV Q none (gj_u2 (gj_u2 SI4 54 (gj_n (SI4 52 2)) a1) 52 2 ((SI4 52 2) + (i3 1))) (gj_w2 (gj_w2 (gj_w2 (gj_w2 (gj_w2 (gj_w2 (gj_w2 (gj_w2 (gj_w2 (gj_w2 SJ4 52 8 ((SJ4 52 8) / r3)) 52 9 ((SJ4 52 9) / r3)) 52 10 ((SJ4 52 10) / r3)) 52 11 ((SJ4 52 11) / r3)) 52 12 (((if 0 < ((SJ4 52 8) / r3) then ((SJ4 52 8) / r3) else -((SJ4 52 8) / r3)) + (if 0 < ((SJ4 52 9) / r3) then ((SJ4 52 9) / r3) else -((SJ4 52 9) / r3))) + (if 0 < ((SJ4 52 10) / r3) then ((SJ4 52 10) / r3) else -((SJ4 52 10) / r3)))) 52 3 ((SJ4 52 8) / r3)) 52 4 ((SJ4 52 9) / r3)) 52 5 ((SJ4 52 10) / r3)) 52 6 ((SJ4 52 11) / r3)) 52 7 (((if 0 < ((SJ4 52 8) / r3) then ((SJ4 52 8) / r3) else -((SJ4 52 8) / r3)) + (if 0 < ((SJ4 52 9) / r3) then ((SJ4 52 9) / r3) else -((SJ4 52 9) / r3))) + (if 0 < ((SJ4 52 10) / r3) then ((SJ4 52 10) / r3) else -((SJ4 52 10) / r3)))))
      have k6 := ((q2.1 (fun z_ => c3 (lgc_eq.mpr z_))).2.1 c5).1
      refine ⟨k6, ?_⟩
      exact ⟨rfl, ((q2.1 (fun z_ => c3 (lgc_eq.mpr z_))).2.1 c5).2⟩
    · refine gj_Do.mono ((q2.1 (fun z_ => c3 (lgc_eq.mpr z_))).2.2 c5) (fun v_ SI6 SJ6 h_ => ?_)
      obtain ⟨r5, rfl, q7⟩ := h_
      show gj_Goes E om0 mt_57 104 [some (.ref 52), some (.int a1), some (.long r3), none] [(.int r5)] SI6 SJ6 (QV Q)
      refine gj_goq gj_clT ok_57 [15, 18, 104] ?_
      show (r5 = 0 → gj_Goes E om0 mt_57 147 [some (.ref 52), some (.int a1), some (.long r3), none] [] SI6 SJ6 (QV Q)) ∧ (¬ r5 = 0 → vp_in (SI6 52 2) 24 ∧ (QV Q none (gj_u2 (gj_u2 SI6 54 (gj_n (SI6 52 2)) a1) 52 2 ((SI6 52 2) + (i3 1))) (gj_w2 (gj_w2 (gj_w2 (gj_w2 (gj_w2 SJ6 52 3 (SJ6 52 8)) 52 4 (SJ6 52 9)) 52 5 (SJ6 52 10)) 52 6 (SJ6 52 11)) 52 7 (SJ6 52 12))))
      refine ⟨fun c8 => ?_, fun c8 => ?_⟩
      · refine gj_goq gj_clT ok_57 [15, 18, 104] ?_
        show vp_in (SI6 52 2) 24 ∧ (QV Q none (gj_u2 (gj_u2 SI6 54 (gj_n (SI6 52 2)) a1) 52 2 ((SI6 52 2) + (i3 1))) SJ6)
        have k9 := (q7.1 c8).1
        refine ⟨k9, ?_⟩
        exact ⟨rfl, (q7.1 c8).2⟩
      · have k10 := (q7.2 c8).1
        refine ⟨k10, ?_⟩
        exact ⟨rfl, (q7.2 c8).2⟩
  · exact ⟨rfl, (q2.2 (lgc_eq.mp c3))⟩
set_option maxRecDepth 20000 in
theorem st_57_76 {E : gj_E} {Q : gj_I → gj_J → Prop} (a1 : Int32) (SI : gj_I) (SJ : gj_J) (h : DoL E 154 [(.long (SJ 76 9)), (.long (SJ 76 10))] SI SJ (fun r1 SI2 SJ2 => DoL E 154 [(.long (SJ 76 8)), (.long r1)] SI2 SJ2 (fun r3 SI4 SJ4 => (¬ r3 = (i6 0) → ¬ r3 = 0 ∧ (((SI4 76 2) = 0 → vp_in (SI4 76 2) 24 ∧ (Q (gj_u2 (gj_u2 SI4 78 (gj_n (SI4 76 2)) a1) 76 2 ((SI4 76 2) + (i3 1))) (gj_w2 (gj_w2 (gj_w2 (gj_w2 (gj_w2 (gj_w2 (gj_w2 (gj_w2 (gj_w2 (gj_w2 SJ4 76 8 ((SJ4 76 8) / r3)) 76 9 ((SJ4 76 9) / r3)) 76 10 ((SJ4 76 10) / r3)) 76 11 ((SJ4 76 11) / r3)) 76 12 (((if 0 < ((SJ4 76 8) / r3) then ((SJ4 76 8) / r3) else -((SJ4 76 8) / r3)) + (if 0 < ((SJ4 76 9) / r3) then ((SJ4 76 9) / r3) else -((SJ4 76 9) / r3))) + (if 0 < ((SJ4 76 10) / r3) then ((SJ4 76 10) / r3) else -((SJ4 76 10) / r3)))) 76 3 ((SJ4 76 8) / r3)) 76 4 ((SJ4 76 9) / r3)) 76 5 ((SJ4 76 10) / r3)) 76 6 ((SJ4 76 11) / r3)) 76 7 (((if 0 < ((SJ4 76 8) / r3) then ((SJ4 76 8) / r3) else -((SJ4 76 8) / r3)) + (if 0 < ((SJ4 76 9) / r3) then ((SJ4 76 9) / r3) else -((SJ4 76 9) / r3))) + (if 0 < ((SJ4 76 10) / r3) then ((SJ4 76 10) / r3) else -((SJ4 76 10) / r3)))))) ∧ (¬ (SI4 76 2) = 0 → DoI E 58 [(.ref 76)] SI4 (gj_w2 (gj_w2 (gj_w2 (gj_w2 (gj_w2 SJ4 76 8 ((SJ4 76 8) / r3)) 76 9 ((SJ4 76 9) / r3)) 76 10 ((SJ4 76 10) / r3)) 76 11 ((SJ4 76 11) / r3)) 76 12 (((if 0 < ((SJ4 76 8) / r3) then ((SJ4 76 8) / r3) else -((SJ4 76 8) / r3)) + (if 0 < ((SJ4 76 9) / r3) then ((SJ4 76 9) / r3) else -((SJ4 76 9) / r3))) + (if 0 < ((SJ4 76 10) / r3) then ((SJ4 76 10) / r3) else -((SJ4 76 10) / r3)))) (fun r5 SI6 SJ6 => (r5 = 0 → vp_in (SI6 76 2) 24 ∧ (Q (gj_u2 (gj_u2 SI6 78 (gj_n (SI6 76 2)) a1) 76 2 ((SI6 76 2) + (i3 1))) SJ6)) ∧ (¬ r5 = 0 → vp_in (SI6 76 2) 24 ∧ (Q (gj_u2 (gj_u2 SI6 78 (gj_n (SI6 76 2)) a1) 76 2 ((SI6 76 2) + (i3 1))) (gj_w2 (gj_w2 (gj_w2 (gj_w2 (gj_w2 SJ6 76 3 (SJ6 76 8)) 76 4 (SJ6 76 9)) 76 5 (SJ6 76 10)) 76 6 (SJ6 76 11)) 76 7 (SJ6 76 12)))))))) ∧ (r3 = (i6 0) → Q SI4 SJ4)))) : DoV E 57 [(.ref 76), (.int a1)] SI SJ Q := by
  refine gj_start (M := mt_57) ok_57 (Nat.le_of_ble_eq_true rfl) ?_
  refine gj_goq gj_clT ok_57 [15, 18, 104] ?_
  show gj_Do E om0 (gj_mt 154) [(.long (SJ 76 9)), (.long (SJ 76 10))] SI SJ _
  refine gj_Do.mono h (fun v_ SI2 SJ2 h_ => ?_)
  obtain ⟨r1, rfl, q1⟩ := h_
  show gj_Goes E om0 mt_57 15 [some (.ref 76), some (.int a1), none, none] [(.long r1), (.long (SJ 76 8))] SI2 SJ2 (QV Q)
  refine gj_goq gj_clT ok_57 [15, 18, 104] ?_
  show gj_Do E om0 (gj_mt 154) [(.long (SJ 76 8)), (.long r1)] SI2 SJ2 _
  refine gj_Do.mono q1 (fun v_ SI4 SJ4 h_ => ?_)
  obtain ⟨r3, rfl, q2⟩ := h_
  show gj_Goes E om0 mt_57 18 [some (.ref 76), some (.int a1), none, none] [(.long r3)] SI4 SJ4 (QV Q)
  refine gj_goq gj_clT ok_57 [15, 18, 104] ?_
  show (¬ (lg_cmp r3 (i6 0)) = 0 → gj_Goes E om0 mt_57 26 [some (.ref 76), some (.int a1), some (.long r3), none] [] SI4 SJ4 (QV Q)) ∧ ((lg_cmp r3 (i6 0)) = 0 → QV Q none SI4 SJ4)
  refine ⟨fun c3 => ?_, fun c3 => ?_⟩
  · refine gj_goq gj_clT ok_57 [15, 18, 104] ?_
    show ¬ r3 = 0 ∧ (¬ r3 = 0 ∧ (¬ r3 = 0 ∧ (¬ r3 = 0 ∧ (((SI4 76 2) = 0 → gj_Goes E om0 mt_57 107 [some (.ref 76), some (.int a1), some (.long r3), none] [] SI4 (gj_w2 (gj_w2 (gj_w2 (gj_w2 (gj_w2 SJ4 76 8 ((SJ4 76 8) / r3)) 76 9 ((SJ4 76 9) / r3)) 76 10 ((SJ4 76 10) / r3)) 76 11 ((SJ4 76 11) / r3)) 76 12 (((if 0 < ((SJ4 76 8) / r3) then ((SJ4 76 8) / r3) else -((SJ4 76 8) / r3)) + (if 0 < ((SJ4 76 9) / r3) then ((SJ4 76 9) / r3) else -((SJ4 76 9) / r3))) + (if 0 < ((SJ4 76 10) / r3) then ((SJ4 76 10) / r3) else -((SJ4 76 10) / r3)))) (QV Q)) ∧ (¬ (SI4 76 2) = 0 → gj_Do E om0 (gj_mt 58) [(.ref 76)] SI4 (gj_w2 (gj_w2 (gj_w2 (gj_w2 (gj_w2 SJ4 76 8 ((SJ4 76 8) / r3)) 76 9 ((SJ4 76 9) / r3)) 76 10 ((SJ4 76 10) / r3)) 76 11 ((SJ4 76 11) / r3)) 76 12 (((if 0 < ((SJ4 76 8) / r3) then ((SJ4 76 8) / r3) else -((SJ4 76 8) / r3)) + (if 0 < ((SJ4 76 9) / r3) then ((SJ4 76 9) / r3) else -((SJ4 76 9) / r3))) + (if 0 < ((SJ4 76 10) / r3) then ((SJ4 76 10) / r3) else -((SJ4 76 10) / r3)))) _)))))
    have k4 := (q2.1 (fun z_ => c3 (lgc_eq.mpr z_))).1
    refine ⟨k4, ?_⟩
    refine ⟨k4, ?_⟩
    refine ⟨k4, ?_⟩
    refine ⟨k4, ?_⟩
    refine ⟨fun c5 => ?_, fun c5 => ?_⟩
    · refine gj_goq gj_clT ok_57 [15, 18, 104] ?_
      show vp_in (SI4 76 2) 24 ∧ (QV Q none (gj_u2 (gj_u2 SI4 78 (gj_n (SI4 76 2)) a1) 76 2 ((SI4 76 2) + (i3 1))) (gj_w2 (gj_w2 (gj_w2 (gj_w2 (gj_w2 (gj_w2 (gj_w2 (gj_w2 (gj_w2 (gj_w2 SJ4 76 8 ((SJ4 76 8) / r3)) 76 9 ((SJ4 76 9) / r3)) 76 10 ((SJ4 76 10) / r3)) 76 11 ((SJ4 76 11) / r3)) 76 12 (((if 0 < ((SJ4 76 8) / r3) then ((SJ4 76 8) / r3) else -((SJ4 76 8) / r3)) + (if 0 < ((SJ4 76 9) / r3) then ((SJ4 76 9) / r3) else -((SJ4 76 9) / r3))) + (if 0 < ((SJ4 76 10) / r3) then ((SJ4 76 10) / r3) else -((SJ4 76 10) / r3)))) 76 3 ((SJ4 76 8) / r3)) 76 4 ((SJ4 76 9) / r3)) 76 5 ((SJ4 76 10) / r3)) 76 6 ((SJ4 76 11) / r3)) 76 7 (((if 0 < ((SJ4 76 8) / r3) then ((SJ4 76 8) / r3) else -((SJ4 76 8) / r3)) + (if 0 < ((SJ4 76 9) / r3) then ((SJ4 76 9) / r3) else -((SJ4 76 9) / r3))) + (if 0 < ((SJ4 76 10) / r3) then ((SJ4 76 10) / r3) else -((SJ4 76 10) / r3)))))
      have k6 := ((q2.1 (fun z_ => c3 (lgc_eq.mpr z_))).2.1 c5).1
      refine ⟨k6, ?_⟩
      exact ⟨rfl, ((q2.1 (fun z_ => c3 (lgc_eq.mpr z_))).2.1 c5).2⟩
    · refine gj_Do.mono ((q2.1 (fun z_ => c3 (lgc_eq.mpr z_))).2.2 c5) (fun v_ SI6 SJ6 h_ => ?_)
      obtain ⟨r5, rfl, q7⟩ := h_
      show gj_Goes E om0 mt_57 104 [some (.ref 76), some (.int a1), some (.long r3), none] [(.int r5)] SI6 SJ6 (QV Q)
      refine gj_goq gj_clT ok_57 [15, 18, 104] ?_
      show (r5 = 0 → gj_Goes E om0 mt_57 147 [some (.ref 76), some (.int a1), some (.long r3), none] [] SI6 SJ6 (QV Q)) ∧ (¬ r5 = 0 → vp_in (SI6 76 2) 24 ∧ (QV Q none (gj_u2 (gj_u2 SI6 78 (gj_n (SI6 76 2)) a1) 76 2 ((SI6 76 2) + (i3 1))) (gj_w2 (gj_w2 (gj_w2 (gj_w2 (gj_w2 SJ6 76 3 (SJ6 76 8)) 76 4 (SJ6 76 9)) 76 5 (SJ6 76 10)) 76 6 (SJ6 76 11)) 76 7 (SJ6 76 12))))
      refine ⟨fun c8 => ?_, fun c8 => ?_⟩
      · refine gj_goq gj_clT ok_57 [15, 18, 104] ?_
        show vp_in (SI6 76 2) 24 ∧ (QV Q none (gj_u2 (gj_u2 SI6 78 (gj_n (SI6 76 2)) a1) 76 2 ((SI6 76 2) + (i3 1))) SJ6)
        have k9 := (q7.1 c8).1
        refine ⟨k9, ?_⟩
        exact ⟨rfl, (q7.1 c8).2⟩
      · have k10 := (q7.2 c8).1
        refine ⟨k10, ?_⟩
        exact ⟨rfl, (q7.2 c8).2⟩
  · exact ⟨rfl, (q2.2 (lgc_eq.mp c3))⟩
set_option maxRecDepth 20000 in
/-- GraspJudge$Sides.isWeaker -/
theorem st_58_52 {E : gj_E} {Q : Int32 → gj_I → gj_J → Prop} (SI : gj_I) (SJ : gj_J) (h : (((SJ 52 11) * (SJ 52 7)) = ((SJ 52 6) * (SJ 52 12)) → ((SJ 52 8) = (SJ 52 3) → ((SJ 52 9) = (SJ 52 4) → ((SJ 52 10) ≥ (SJ 52 5) → Q (i3 0) SI SJ) ∧ (¬ (SJ 52 10) ≥ (SJ 52 5) → Q (i3 1) SI SJ)) ∧ (¬ (SJ 52 9) = (SJ 52 4) → ((SJ 52 9) ≥ (SJ 52 4) → Q (i3 0) SI SJ) ∧ (¬ (SJ 52 9) ≥ (SJ 52 4) → Q (i3 1) SI SJ))) ∧ (¬ (SJ 52 8) = (SJ 52 3) → ((SJ 52 8) ≥ (SJ 52 3) → Q (i3 0) SI SJ) ∧ (¬ (SJ 52 8) ≥ (SJ 52 3) → Q (i3 1) SI SJ))) ∧ (¬ ((SJ 52 11) * (SJ 52 7)) = ((SJ 52 6) * (SJ 52 12)) → (((SJ 52 11) * (SJ 52 7)) ≥ ((SJ 52 6) * (SJ 52 12)) → Q (i3 0) SI SJ) ∧ (¬ ((SJ 52 11) * (SJ 52 7)) ≥ ((SJ 52 6) * (SJ 52 12)) → Q (i3 1) SI SJ))) : DoI E 58 [(.ref 52)] SI SJ Q := by
  refine gj_start (M := mt_58) ok_58 (Nat.le_of_ble_eq_true rfl) ?_
  refine gj_goq gj_clT ok_58 [] ?_
  show ((lg_cmp ((SJ 52 11) * (SJ 52 7)) ((SJ 52 6) * (SJ 52 12))) = 0 → gj_Goes E om0 mt_58 38 [some (.ref 52), some (.long ((SJ 52 11) * (SJ 52 7))), none, some (.long ((SJ 52 6) * (SJ 52 12))), none] [] SI SJ (QI Q)) ∧ (¬ (lg_cmp ((SJ 52 11) * (SJ 52 7)) ((SJ 52 6) * (SJ 52 12))) = 0 → (0 ≤ (lg_cmp ((SJ 52 11) * (SJ 52 7)) ((SJ 52 6) * (SJ 52 12))) → gj_Goes E om0 mt_58 36 [some (.ref 52), some (.long ((SJ 52 11) * (SJ 52 7))), none, some (.long ((SJ 52 6) * (SJ 52 12))), none] [] SI SJ (QI Q)) ∧ (¬ 0 ≤ (lg_cmp ((SJ 52 11) * (SJ 52 7)) ((SJ 52 6) * (SJ 52 12))) → gj_Goes E om0 mt_58 37 [some (.ref 52), some (.long ((SJ 52 11) * (SJ 52 7))), none, some (.long ((SJ 52 6) * (SJ 52 12))), none] [(.int (i3 1))] SI SJ (QI Q)))
  refine ⟨fun c1 => ?_, fun c1 => ?_⟩
  · refine gj_goq gj_clT ok_58 [] ?_
    show ((lg_cmp (SJ 52 8) (SJ 52 3)) = 0 → gj_Goes E om0 mt_58 68 [some (.ref 52), some (.long ((SJ 52 11) * (SJ 52 7))), none, some (.long ((SJ 52 6) * (SJ 52 12))), none] [] SI SJ (QI Q)) ∧ (¬ (lg_cmp (SJ 52 8) (SJ 52 3)) = 0 → (0 ≤ (lg_cmp (SJ 52 8) (SJ 52 3)) → gj_Goes E om0 mt_58 66 [some (.ref 52), some (.long ((SJ 52 11) * (SJ 52 7))), none, some (.long ((SJ 52 6) * (SJ 52 12))), none] [] SI SJ (QI Q)) ∧ (¬ 0 ≤ (lg_cmp (SJ 52 8) (SJ 52 3)) → gj_Goes E om0 mt_58 67 [some (.ref 52), some (.long ((SJ 52 11) * (SJ 52 7))), none, some (.long ((SJ 52 6) * (SJ 52 12))), none] [(.int (i3 1))] SI SJ (QI Q)))
    refine ⟨fun c2 => ?_, fun c2 => ?_⟩
    · refine gj_goq gj_clT ok_58 [] ?_
      show ((lg_cmp (SJ 52 9) (SJ 52 4)) = 0 → gj_Goes E om0 mt_58 100 [some (.ref 52), some (.long ((SJ 52 11) * (SJ 52 7))), none, some (.long ((SJ 52 6) * (SJ 52 12))), none] [] SI SJ (QI Q)) ∧ (¬ (lg_cmp (SJ 52 9) (SJ 52 4)) = 0 → (0 ≤ (lg_cmp (SJ 52 9) (SJ 52 4)) → gj_Goes E om0 mt_58 96 [some (.ref 52), some (.long ((SJ 52 11) * (SJ 52 7))), none, some (.long ((SJ 52 6) * (SJ 52 12))), none] [] SI SJ (QI Q)) ∧ (¬ 0 ≤ (lg_cmp (SJ 52 9) (SJ 52 4)) → gj_Goes E om0 mt_58 117 [some (.ref 52), some (.long ((SJ 52 11) * (SJ 52 7))), none, some (.long ((SJ 52 6) * (SJ 52 12))), none] [(.int (i3 1))] SI SJ (QI Q)))
      refine ⟨fun c3 => ?_, fun c3 => ?_⟩
      · refine gj_goq gj_clT ok_58 [] ?_
        show (0 ≤ (lg_cmp (SJ 52 10) (SJ 52 5)) → gj_Goes E om0 mt_58 116 [some (.ref 52), some (.long ((SJ 52 11) * (SJ 52 7))), none, some (.long ((SJ 52 6) * (SJ 52 12))), none] [] SI SJ (QI Q)) ∧ (¬ 0 ≤ (lg_cmp (SJ 52 10) (SJ 52 5)) → gj_Goes E om0 mt_58 117 [some (.ref 52), some (.long ((SJ 52 11) * (SJ 52 7))), none, some (.long ((SJ 52 6) * (SJ 52 12))), none] [(.int (i3 1))] SI SJ (QI Q))
        refine ⟨fun c4 => ?_, fun c4 => ?_⟩
        · refine gj_goq gj_clT ok_58 [] ?_
          show ((i3 0) = 0 ∨ (i3 0) = 1) ∧ (QI Q (some (.int (i3 0))) SI SJ)
          refine ⟨(Or.inl rfl), ?_⟩
          exact ⟨_, rfl, ((((h.1 (lgc_eq.mp c1)).1 (lgc_eq.mp c2)).1 (lgc_eq.mp c3)).1 (lgc_ge.mp c4))⟩
        · refine gj_goq gj_clT ok_58 [] ?_
          show ((i3 1) = 0 ∨ (i3 1) = 1) ∧ (QI Q (some (.int (i3 1))) SI SJ)
          refine ⟨(Or.inr rfl), ?_⟩
          exact ⟨_, rfl, ((((h.1 (lgc_eq.mp c1)).1 (lgc_eq.mp c2)).1 (lgc_eq.mp c3)).2 (fun z_ => c4 (lgc_ge.mpr z_)))⟩
      · refine ⟨fun c5 => ?_, fun c5 => ?_⟩
        · refine gj_goq gj_clT ok_58 [] ?_
          show gj_Goes E om0 mt_58 117 [some (.ref 52), some (.long ((SJ 52 11) * (SJ 52 7))), none, some (.long ((SJ 52 6) * (SJ 52 12))), none] [(.int (i3 0))] SI SJ (QI Q)
          refine gj_goq gj_clT ok_58 [] ?_
          show ((i3 0) = 0 ∨ (i3 0) = 1) ∧ (QI Q (some (.int (i3 0))) SI SJ)
          refine ⟨(Or.inl rfl), ?_⟩
          exact ⟨_, rfl, ((((h.1 (lgc_eq.mp c1)).1 (lgc_eq.mp c2)).2 (fun z_ => c3 (lgc_eq.mpr z_))).1 (lgc_ge.mp c5))⟩
        · refine gj_goq gj_clT ok_58 [] ?_
          show ((i3 1) = 0 ∨ (i3 1) = 1) ∧ (QI Q (some (.int (i3 1))) SI SJ)
          refine ⟨(Or.inr rfl), ?_⟩
          exact ⟨_, rfl, ((((h.1 (lgc_eq.mp c1)).1 (lgc_eq.mp c2)).2 (fun z_ => c3 (lgc_eq.mpr z_))).2 (fun z_ => c5 (lgc_ge.mpr z_)))⟩
    · refine ⟨fun c6 => ?_, fun c6 => ?_⟩
      · refine gj_goq gj_clT ok_58 [] ?_
        show ((i3 0) = 0 ∨ (i3 0) = 1) ∧ (QI Q (some (.int (i3 0))) SI SJ)
        refine ⟨(Or.inl rfl), ?_⟩
        exact ⟨_, rfl, (((h.1 (lgc_eq.mp c1)).2 (fun z_ => c2 (lgc_eq.mpr z_))).1 (lgc_ge.mp c6))⟩
      · refine gj_goq gj_clT ok_58 [] ?_
        show ((i3 1) = 0 ∨ (i3 1) = 1) ∧ (QI Q (some (.int (i3 1))) SI SJ)
        refine ⟨(Or.inr rfl), ?_⟩
        exact ⟨_, rfl, (((h.1 (lgc_eq.mp c1)).2 (fun z_ => c2 (lgc_eq.mpr z_))).2 (fun z_ => c6 (lgc_ge.mpr z_)))⟩
  · refine ⟨fun c7 => ?_, fun c7 => ?_⟩
    · refine gj_goq gj_clT ok_58 [] ?_
      show ((i3 0) = 0 ∨ (i3 0) = 1) ∧ (QI Q (some (.int (i3 0))) SI SJ)
      refine ⟨(Or.inl rfl), ?_⟩
      exact ⟨_, rfl, ((h.2 (fun z_ => c1 (lgc_eq.mpr z_))).1 (lgc_ge.mp c7))⟩
    · refine gj_goq gj_clT ok_58 [] ?_
      show ((i3 1) = 0 ∨ (i3 1) = 1) ∧ (QI Q (some (.int (i3 1))) SI SJ)
      refine ⟨(Or.inr rfl), ?_⟩
      exact ⟨_, rfl, ((h.2 (fun z_ => c1 (lgc_eq.mpr z_))).2 (fun z_ => c7 (lgc_ge.mpr z_)))⟩
set_option maxRecDepth 20000 in
theorem st_58_76 {E : gj_E} {Q : Int32 → gj_I → gj_J → Prop} (SI : gj_I) (SJ : gj_J) (h : (((SJ 76 11) * (SJ 76 7)) = ((SJ 76 6) * (SJ 76 12)) → ((SJ 76 8) = (SJ 76 3) → ((SJ 76 9) = (SJ 76 4) → ((SJ 76 10) ≥ (SJ 76 5) → Q (i3 0) SI SJ) ∧ (¬ (SJ 76 10) ≥ (SJ 76 5) → Q (i3 1) SI SJ)) ∧ (¬ (SJ 76 9) = (SJ 76 4) → ((SJ 76 9) ≥ (SJ 76 4) → Q (i3 0) SI SJ) ∧ (¬ (SJ 76 9) ≥ (SJ 76 4) → Q (i3 1) SI SJ))) ∧ (¬ (SJ 76 8) = (SJ 76 3) → ((SJ 76 8) ≥ (SJ 76 3) → Q (i3 0) SI SJ) ∧ (¬ (SJ 76 8) ≥ (SJ 76 3) → Q (i3 1) SI SJ))) ∧ (¬ ((SJ 76 11) * (SJ 76 7)) = ((SJ 76 6) * (SJ 76 12)) → (((SJ 76 11) * (SJ 76 7)) ≥ ((SJ 76 6) * (SJ 76 12)) → Q (i3 0) SI SJ) ∧ (¬ ((SJ 76 11) * (SJ 76 7)) ≥ ((SJ 76 6) * (SJ 76 12)) → Q (i3 1) SI SJ))) : DoI E 58 [(.ref 76)] SI SJ Q := by
  refine gj_start (M := mt_58) ok_58 (Nat.le_of_ble_eq_true rfl) ?_
  refine gj_goq gj_clT ok_58 [] ?_
  show ((lg_cmp ((SJ 76 11) * (SJ 76 7)) ((SJ 76 6) * (SJ 76 12))) = 0 → gj_Goes E om0 mt_58 38 [some (.ref 76), some (.long ((SJ 76 11) * (SJ 76 7))), none, some (.long ((SJ 76 6) * (SJ 76 12))), none] [] SI SJ (QI Q)) ∧ (¬ (lg_cmp ((SJ 76 11) * (SJ 76 7)) ((SJ 76 6) * (SJ 76 12))) = 0 → (0 ≤ (lg_cmp ((SJ 76 11) * (SJ 76 7)) ((SJ 76 6) * (SJ 76 12))) → gj_Goes E om0 mt_58 36 [some (.ref 76), some (.long ((SJ 76 11) * (SJ 76 7))), none, some (.long ((SJ 76 6) * (SJ 76 12))), none] [] SI SJ (QI Q)) ∧ (¬ 0 ≤ (lg_cmp ((SJ 76 11) * (SJ 76 7)) ((SJ 76 6) * (SJ 76 12))) → gj_Goes E om0 mt_58 37 [some (.ref 76), some (.long ((SJ 76 11) * (SJ 76 7))), none, some (.long ((SJ 76 6) * (SJ 76 12))), none] [(.int (i3 1))] SI SJ (QI Q)))
  refine ⟨fun c1 => ?_, fun c1 => ?_⟩
  · refine gj_goq gj_clT ok_58 [] ?_
    show ((lg_cmp (SJ 76 8) (SJ 76 3)) = 0 → gj_Goes E om0 mt_58 68 [some (.ref 76), some (.long ((SJ 76 11) * (SJ 76 7))), none, some (.long ((SJ 76 6) * (SJ 76 12))), none] [] SI SJ (QI Q)) ∧ (¬ (lg_cmp (SJ 76 8) (SJ 76 3)) = 0 → (0 ≤ (lg_cmp (SJ 76 8) (SJ 76 3)) → gj_Goes E om0 mt_58 66 [some (.ref 76), some (.long ((SJ 76 11) * (SJ 76 7))), none, some (.long ((SJ 76 6) * (SJ 76 12))), none] [] SI SJ (QI Q)) ∧ (¬ 0 ≤ (lg_cmp (SJ 76 8) (SJ 76 3)) → gj_Goes E om0 mt_58 67 [some (.ref 76), some (.long ((SJ 76 11) * (SJ 76 7))), none, some (.long ((SJ 76 6) * (SJ 76 12))), none] [(.int (i3 1))] SI SJ (QI Q)))
    refine ⟨fun c2 => ?_, fun c2 => ?_⟩
    · refine gj_goq gj_clT ok_58 [] ?_
      show ((lg_cmp (SJ 76 9) (SJ 76 4)) = 0 → gj_Goes E om0 mt_58 100 [some (.ref 76), some (.long ((SJ 76 11) * (SJ 76 7))), none, some (.long ((SJ 76 6) * (SJ 76 12))), none] [] SI SJ (QI Q)) ∧ (¬ (lg_cmp (SJ 76 9) (SJ 76 4)) = 0 → (0 ≤ (lg_cmp (SJ 76 9) (SJ 76 4)) → gj_Goes E om0 mt_58 96 [some (.ref 76), some (.long ((SJ 76 11) * (SJ 76 7))), none, some (.long ((SJ 76 6) * (SJ 76 12))), none] [] SI SJ (QI Q)) ∧ (¬ 0 ≤ (lg_cmp (SJ 76 9) (SJ 76 4)) → gj_Goes E om0 mt_58 117 [some (.ref 76), some (.long ((SJ 76 11) * (SJ 76 7))), none, some (.long ((SJ 76 6) * (SJ 76 12))), none] [(.int (i3 1))] SI SJ (QI Q)))
      refine ⟨fun c3 => ?_, fun c3 => ?_⟩
      · refine gj_goq gj_clT ok_58 [] ?_
        show (0 ≤ (lg_cmp (SJ 76 10) (SJ 76 5)) → gj_Goes E om0 mt_58 116 [some (.ref 76), some (.long ((SJ 76 11) * (SJ 76 7))), none, some (.long ((SJ 76 6) * (SJ 76 12))), none] [] SI SJ (QI Q)) ∧ (¬ 0 ≤ (lg_cmp (SJ 76 10) (SJ 76 5)) → gj_Goes E om0 mt_58 117 [some (.ref 76), some (.long ((SJ 76 11) * (SJ 76 7))), none, some (.long ((SJ 76 6) * (SJ 76 12))), none] [(.int (i3 1))] SI SJ (QI Q))
        refine ⟨fun c4 => ?_, fun c4 => ?_⟩
        · refine gj_goq gj_clT ok_58 [] ?_
          show ((i3 0) = 0 ∨ (i3 0) = 1) ∧ (QI Q (some (.int (i3 0))) SI SJ)
          refine ⟨(Or.inl rfl), ?_⟩
          exact ⟨_, rfl, ((((h.1 (lgc_eq.mp c1)).1 (lgc_eq.mp c2)).1 (lgc_eq.mp c3)).1 (lgc_ge.mp c4))⟩
        · refine gj_goq gj_clT ok_58 [] ?_
          show ((i3 1) = 0 ∨ (i3 1) = 1) ∧ (QI Q (some (.int (i3 1))) SI SJ)
          refine ⟨(Or.inr rfl), ?_⟩
          exact ⟨_, rfl, ((((h.1 (lgc_eq.mp c1)).1 (lgc_eq.mp c2)).1 (lgc_eq.mp c3)).2 (fun z_ => c4 (lgc_ge.mpr z_)))⟩
      · refine ⟨fun c5 => ?_, fun c5 => ?_⟩
        · refine gj_goq gj_clT ok_58 [] ?_
          show gj_Goes E om0 mt_58 117 [some (.ref 76), some (.long ((SJ 76 11) * (SJ 76 7))), none, some (.long ((SJ 76 6) * (SJ 76 12))), none] [(.int (i3 0))] SI SJ (QI Q)
          refine gj_goq gj_clT ok_58 [] ?_
          show ((i3 0) = 0 ∨ (i3 0) = 1) ∧ (QI Q (some (.int (i3 0))) SI SJ)
          refine ⟨(Or.inl rfl), ?_⟩
          exact ⟨_, rfl, ((((h.1 (lgc_eq.mp c1)).1 (lgc_eq.mp c2)).2 (fun z_ => c3 (lgc_eq.mpr z_))).1 (lgc_ge.mp c5))⟩
        · refine gj_goq gj_clT ok_58 [] ?_
          show ((i3 1) = 0 ∨ (i3 1) = 1) ∧ (QI Q (some (.int (i3 1))) SI SJ)
          refine ⟨(Or.inr rfl), ?_⟩
          exact ⟨_, rfl, ((((h.1 (lgc_eq.mp c1)).1 (lgc_eq.mp c2)).2 (fun z_ => c3 (lgc_eq.mpr z_))).2 (fun z_ => c5 (lgc_ge.mpr z_)))⟩
    · refine ⟨fun c6 => ?_, fun c6 => ?_⟩
      · refine gj_goq gj_clT ok_58 [] ?_
        show ((i3 0) = 0 ∨ (i3 0) = 1) ∧ (QI Q (some (.int (i3 0))) SI SJ)
        refine ⟨(Or.inl rfl), ?_⟩
        exact ⟨_, rfl, (((h.1 (lgc_eq.mp c1)).2 (fun z_ => c2 (lgc_eq.mpr z_))).1 (lgc_ge.mp c6))⟩
      · refine gj_goq gj_clT ok_58 [] ?_
        show ((i3 1) = 0 ∨ (i3 1) = 1) ∧ (QI Q (some (.int (i3 1))) SI SJ)
        refine ⟨(Or.inr rfl), ?_⟩
        exact ⟨_, rfl, (((h.1 (lgc_eq.mp c1)).2 (fun z_ => c2 (lgc_eq.mpr z_))).2 (fun z_ => c6 (lgc_ge.mpr z_)))⟩
  · refine ⟨fun c7 => ?_, fun c7 => ?_⟩
    · refine gj_goq gj_clT ok_58 [] ?_
      show ((i3 0) = 0 ∨ (i3 0) = 1) ∧ (QI Q (some (.int (i3 0))) SI SJ)
      refine ⟨(Or.inl rfl), ?_⟩
      exact ⟨_, rfl, ((h.2 (fun z_ => c1 (lgc_eq.mpr z_))).1 (lgc_ge.mp c7))⟩
    · refine gj_goq gj_clT ok_58 [] ?_
      show ((i3 1) = 0 ∨ (i3 1) = 1) ∧ (QI Q (some (.int (i3 1))) SI SJ)
      refine ⟨(Or.inr rfl), ?_⟩
      exact ⟨_, rfl, ((h.2 (fun z_ => c1 (lgc_eq.mpr z_))).2 (fun z_ => c7 (lgc_ge.mpr z_)))⟩
set_option maxRecDepth 20000 in
/-- GraspJudge$Trials.forget -/
theorem st_80 {E : gj_E} {Q : gj_I → gj_J → Prop} (SI : gj_I) (SJ : gj_J) (h : Q (gj_u2 (gj_u2 SI 65 4 (i3 0)) 65 5 (i3 0)) SJ) : DoV E 80 [(.ref 65)] SI SJ Q := by
  refine gj_start (M := mt_80) ok_80 (Nat.le_of_ble_eq_true rfl) ?_
  refine gj_goq gj_clT ok_80 [] ?_
  show ((i3 0) = 0 ∨ (i3 0) = 1) ∧ (((i3 0) = 0 ∨ (i3 0) = 1) ∧ (QV Q none (gj_u2 (gj_u2 SI 65 4 (i3 0)) 65 5 (i3 0)) SJ))
  refine ⟨(Or.inl rfl), ?_⟩
  refine ⟨(Or.inl rfl), ?_⟩
  exact ⟨rfl, h⟩
set_option maxRecDepth 20000 in
/-- GraspJudge$Trials.isFirm -/
theorem st_81 {E : gj_E} {Q : Int32 → gj_I → gj_J → Prop} (SI : gj_I) (SJ : gj_J) (h : DoV E 5 [(.ref 66)] SI SJ (fun SI2 SJ2 => DoI E 3 [(.ref 66)] SI2 SJ2 (fun r3 SI4 SJ4 => DoI E 10 [(.ref 66), (.int r3)] SI4 SJ4 (fun r5 SI6 SJ6 => (r5 = 0 ∨ r5 = 1) ∧ (Q r5 SI6 SJ6))))) : DoI E 81 [(.ref 65)] SI SJ Q := by
  refine gj_start (M := mt_81) ok_81 (Nat.le_of_ble_eq_true rfl) ?_
  refine gj_goq gj_clT ok_81 [7, 18, 21] ?_
  show gj_Do E om0 (gj_mt 5) [(.ref 66)] SI SJ _
  refine gj_Do.mono h (fun v_ SI2 SJ2 h_ => ?_)
  obtain ⟨rfl, q1⟩ := h_
  show gj_Goes E om0 mt_81 7 [some (.ref 65)] [] SI2 SJ2 (QI Q)
  refine gj_goq gj_clT ok_81 [7, 18, 21] ?_
  show gj_Do E om0 (gj_mt 3) [(.ref 66)] SI2 SJ2 _
  refine gj_Do.mono q1 (fun v_ SI4 SJ4 h_ => ?_)
  obtain ⟨r3, rfl, q2⟩ := h_
  show gj_Goes E om0 mt_81 18 [some (.ref 65)] [(.int r3), (.ref 66)] SI4 SJ4 (QI Q)
  refine gj_goq gj_clT ok_81 [7, 18, 21] ?_
  show gj_Do E om0 (gj_mt 10) [(.ref 66), (.int r3)] SI4 SJ4 _
  refine gj_Do.mono q2 (fun v_ SI6 SJ6 h_ => ?_)
  obtain ⟨r5, rfl, q3⟩ := h_
  show gj_Goes E om0 mt_81 21 [some (.ref 65)] [(.int r5)] SI6 SJ6 (QI Q)
  refine gj_goq gj_clT ok_81 [7, 18, 21] ?_
  show (r5 = 0 ∨ r5 = 1) ∧ (QI Q (some (.int r5)) SI6 SJ6)
  have k4 := q3.1
  refine ⟨k4, ?_⟩
  exact ⟨_, rfl, q3.2⟩
set_option maxRecDepth 20000 in
/-- GraspJudge$Trials.seekOneMore -/
theorem st_82 {E : gj_E} {Q : gj_I → gj_J → Prop} (SI : gj_I) (SJ : gj_J) (h : ((SI 65 4) = 0 → GoV E mt_82 20 [some (.ref 65), some (.ref 3), some (.int (i3 0)), none, none] (gj_u2 (gj_u2 SI 65 4 (i3 1)) 65 6 (i3 (-1))) SJ Q) ∧ (¬ (SI 65 4) = 0 → Q SI SJ)) : DoV E 82 [(.ref 65), (.ref 3)] SI SJ Q := by
  refine gj_start (M := mt_82) ok_82 (Nat.le_of_ble_eq_true rfl) ?_
  refine gj_goq gj_clT ok_82 [20, 59, 70, 84, 100, 135] ?_
  show ((SI 65 4) = 0 → gj_Goes E om0 mt_82 8 [some (.ref 65), some (.ref 3), none, none, none] [] SI SJ (QV Q)) ∧ (¬ (SI 65 4) = 0 → QV Q none SI SJ)
  refine ⟨fun c1 => ?_, fun c1 => ?_⟩
  · refine gj_goq gj_clT ok_82 [20, 59, 70, 84, 100, 135] ?_
    show ((i3 1) = 0 ∨ (i3 1) = 1) ∧ (gj_Goes E om0 mt_82 20 [some (.ref 65), some (.ref 3), some (.int (i3 0)), none, none] [] (gj_u2 (gj_u2 SI 65 4 (i3 1)) 65 6 (i3 (-1))) SJ (QV Q))
    refine ⟨(Or.inr rfl), ?_⟩
    exact (h.1 c1)
  · exact ⟨rfl, (h.2 c1)⟩
set_option maxRecDepth 20000 in
theorem lp_82_20 {E : gj_E} {Q : gj_I → gj_J → Prop} (x2 : Int32) (SI : gj_I) (SJ : gj_J) (h : ((SI 4 8) ≤ x2 → Q SI SJ) ∧ (¬ (SI 4 8) ≤ x2 → vp_in x2 72 ∧ (DoI E 63 [(.ref 3), (.int (SI 10 (gj_n x2))), (.int (SI 11 (gj_n x2)))] SI SJ (fun r1 SI2 SJ2 => (0 ≤ r1 → GoV E mt_82 20 [some (.ref 65), some (.ref 3), some (.int (x2 + (i3 1))), none, none] SI2 SJ2 Q) ∧ (¬ 0 ≤ r1 → DoI E 83 [(.ref 65), (.ref 3), (.int (SI 10 (gj_n x2))), (.int (SI 11 (gj_n x2)))] SI2 SJ2 (fun r3 SI4 SJ4 => (r3 = 0 → GoV E mt_82 20 [some (.ref 65), some (.ref 3), some (.int (x2 + (i3 1))), none, none] SI4 SJ4 Q) ∧ (¬ r3 = 0 → DoV E 53 [(.ref 76), (.ref 66)] SI4 SJ4 (fun SI6 SJ6 => ((SI6 65 6) = (i3 (-1)) → DoV E 14 [(.ref 79), (.long (SJ6 77 0)), (.long (SJ6 77 1))] (gj_u2 SI6 65 6 x2) SJ6 (fun SI8 SJ8 => GoV E mt_82 20 [some (.ref 65), some (.ref 3), some (.int (x2 + (i3 1))), none, none] SI8 SJ8 Q)) ∧ (¬ (SI6 65 6) = (i3 (-1)) → DoI E 84 [(.ref 65), (.ref 79)] SI6 SJ6 (fun r9 SI10 SJ10 => (r9 = 0 → GoV E mt_82 20 [some (.ref 65), some (.ref 3), some (.int (x2 + (i3 1))), none, none] SI10 SJ10 Q) ∧ (¬ r9 = 0 → DoV E 14 [(.ref 79), (.long (SJ10 77 0)), (.long (SJ10 77 1))] (gj_u2 SI10 65 6 x2) SJ10 (fun SI12 SJ12 => GoV E mt_82 20 [some (.ref 65), some (.ref 3), some (.int (x2 + (i3 1))), none, none] SI12 SJ12 Q)))))))))))) : GoV E mt_82 20 [some (.ref 65), some (.ref 3), some (.int x2), none, none] SI SJ Q := by
  refine gj_goq gj_clT ok_82 [20, 59, 70, 84, 100, 135] ?_
  show ((SI 4 8) ≤ x2 → gj_Goes E om0 mt_82 141 [some (.ref 65), some (.ref 3), some (.int x2), none, none] [] SI SJ (QV Q)) ∧ (¬ (SI 4 8) ≤ x2 → vp_in x2 72 ∧ (vp_in x2 72 ∧ (gj_Do E om0 (gj_mt 63) [(.ref 3), (.int (SI 10 (gj_n x2))), (.int (SI 11 (gj_n x2)))] SI SJ _)))
  refine ⟨fun c1 => ?_, fun c1 => ?_⟩
  · refine gj_goq gj_clT ok_82 [20, 59, 70, 84, 100, 135] ?_
    show QV Q none SI SJ
    exact ⟨rfl, (h.1 c1)⟩
  · have k2 := (h.2 c1).1
    refine ⟨k2, ?_⟩
    refine ⟨k2, ?_⟩
    refine gj_Do.mono (h.2 c1).2 (fun v_ SI2 SJ2 h_ => ?_)
    obtain ⟨r1, rfl, q3⟩ := h_
    show gj_Goes E om0 mt_82 59 [some (.ref 65), some (.ref 3), some (.int x2), some (.int (SI 10 (gj_n x2))), some (.int (SI 11 (gj_n x2)))] [(.int r1)] SI2 SJ2 (QV Q)
    refine gj_goq gj_clT ok_82 [20, 59, 70, 84, 100, 135] ?_
    show (0 ≤ r1 → gj_Goes E om0 mt_82 135 [some (.ref 65), some (.ref 3), some (.int x2), some (.int (SI 10 (gj_n x2))), some (.int (SI 11 (gj_n x2)))] [] SI2 SJ2 (QV Q)) ∧ (¬ 0 ≤ r1 → gj_Do E om0 (gj_mt 83) [(.ref 65), (.ref 3), (.int (SI 10 (gj_n x2))), (.int (SI 11 (gj_n x2)))] SI2 SJ2 _)
    refine ⟨fun c4 => ?_, fun c4 => ?_⟩
    · refine gj_goq gj_clT ok_82 [20, 59, 70, 84, 100, 135] ?_
      show gj_Goes E om0 mt_82 20 [some (.ref 65), some (.ref 3), some (.int (x2 + (i3 1))), some (.int (SI 10 (gj_n x2))), some (.int (SI 11 (gj_n x2)))] [] SI2 SJ2 (QV Q)
      exact gj_fh (q3.1 c4) (And.intro (Or.inr rfl) (And.intro (Or.inr rfl) (And.intro (Or.inr rfl) (And.intro (Or.inl rfl) (And.intro (Or.inl rfl) trivial)))))
    · refine gj_Do.mono (q3.2 c4) (fun v_ SI4 SJ4 h_ => ?_)
      obtain ⟨r3, rfl, q5⟩ := h_
      show gj_Goes E om0 mt_82 70 [some (.ref 65), some (.ref 3), some (.int x2), some (.int (SI 10 (gj_n x2))), some (.int (SI 11 (gj_n x2)))] [(.int r3)] SI4 SJ4 (QV Q)
      refine gj_goq gj_clT ok_82 [20, 59, 70, 84, 100, 135] ?_
      show (r3 = 0 → gj_Goes E om0 mt_82 135 [some (.ref 65), some (.ref 3), some (.int x2), some (.int (SI 10 (gj_n x2))), some (.int (SI 11 (gj_n x2)))] [] SI4 SJ4 (QV Q)) ∧ (¬ r3 = 0 → gj_Do E om0 (gj_mt 53) [(.ref 76), (.ref 66)] SI4 SJ4 _)
      refine ⟨fun c6 => ?_, fun c6 => ?_⟩
      · refine gj_goq gj_clT ok_82 [20, 59, 70, 84, 100, 135] ?_
        show gj_Goes E om0 mt_82 20 [some (.ref 65), some (.ref 3), some (.int (x2 + (i3 1))), some (.int (SI 10 (gj_n x2))), some (.int (SI 11 (gj_n x2)))] [] SI4 SJ4 (QV Q)
        exact gj_fh (q5.1 c6) (And.intro (Or.inr rfl) (And.intro (Or.inr rfl) (And.intro (Or.inr rfl) (And.intro (Or.inl rfl) (And.intro (Or.inl rfl) trivial)))))
      · refine gj_Do.mono (q5.2 c6) (fun v_ SI6 SJ6 h_ => ?_)
        obtain ⟨rfl, q7⟩ := h_
        show gj_Goes E om0 mt_82 84 [some (.ref 65), some (.ref 3), some (.int x2), some (.int (SI 10 (gj_n x2))), some (.int (SI 11 (gj_n x2)))] [] SI6 SJ6 (QV Q)
        refine gj_goq gj_clT ok_82 [20, 59, 70, 84, 100, 135] ?_
        show ((SI6 65 6) = (i3 (-1)) → gj_Goes E om0 mt_82 103 [some (.ref 65), some (.ref 3), some (.int x2), some (.int (SI 10 (gj_n x2))), some (.int (SI 11 (gj_n x2)))] [] SI6 SJ6 (QV Q)) ∧ (¬ (SI6 65 6) = (i3 (-1)) → gj_Do E om0 (gj_mt 84) [(.ref 65), (.ref 79)] SI6 SJ6 _)
        refine ⟨fun c8 => ?_, fun c8 => ?_⟩
        · refine gj_goq gj_clT ok_82 [20, 59, 70, 84, 100, 135] ?_
          show gj_Do E om0 (gj_mt 14) [(.ref 79), (.long (SJ6 77 0)), (.long (SJ6 77 1))] (gj_u2 SI6 65 6 x2) SJ6 _
          refine gj_Do.mono (q7.1 c8) (fun v_ SI8 SJ8 h_ => ?_)
          obtain ⟨rfl, q9⟩ := h_
          show gj_Goes E om0 mt_82 135 [some (.ref 65), some (.ref 3), some (.int x2), some (.int (SI 10 (gj_n x2))), some (.int (SI 11 (gj_n x2)))] [] SI8 SJ8 (QV Q)
          refine gj_goq gj_clT ok_82 [20, 59, 70, 84, 100, 135] ?_
          show gj_Goes E om0 mt_82 20 [some (.ref 65), some (.ref 3), some (.int (x2 + (i3 1))), some (.int (SI 10 (gj_n x2))), some (.int (SI 11 (gj_n x2)))] [] SI8 SJ8 (QV Q)
          exact gj_fh q9 (And.intro (Or.inr rfl) (And.intro (Or.inr rfl) (And.intro (Or.inr rfl) (And.intro (Or.inl rfl) (And.intro (Or.inl rfl) trivial)))))
        · refine gj_Do.mono (q7.2 c8) (fun v_ SI10 SJ10 h_ => ?_)
          obtain ⟨r9, rfl, q10⟩ := h_
          show gj_Goes E om0 mt_82 100 [some (.ref 65), some (.ref 3), some (.int x2), some (.int (SI 10 (gj_n x2))), some (.int (SI 11 (gj_n x2)))] [(.int r9)] SI10 SJ10 (QV Q)
          refine gj_goq gj_clT ok_82 [20, 59, 70, 84, 100, 135] ?_
          show (r9 = 0 → gj_Goes E om0 mt_82 135 [some (.ref 65), some (.ref 3), some (.int x2), some (.int (SI 10 (gj_n x2))), some (.int (SI 11 (gj_n x2)))] [] SI10 SJ10 (QV Q)) ∧ (¬ r9 = 0 → gj_Do E om0 (gj_mt 14) [(.ref 79), (.long (SJ10 77 0)), (.long (SJ10 77 1))] (gj_u2 SI10 65 6 x2) SJ10 _)
          refine ⟨fun c11 => ?_, fun c11 => ?_⟩
          · refine gj_goq gj_clT ok_82 [20, 59, 70, 84, 100, 135] ?_
            show gj_Goes E om0 mt_82 20 [some (.ref 65), some (.ref 3), some (.int (x2 + (i3 1))), some (.int (SI 10 (gj_n x2))), some (.int (SI 11 (gj_n x2)))] [] SI10 SJ10 (QV Q)
            exact gj_fh (q10.1 c11) (And.intro (Or.inr rfl) (And.intro (Or.inr rfl) (And.intro (Or.inr rfl) (And.intro (Or.inl rfl) (And.intro (Or.inl rfl) trivial)))))
          · refine gj_Do.mono (q10.2 c11) (fun v_ SI12 SJ12 h_ => ?_)
            obtain ⟨rfl, q12⟩ := h_
            show gj_Goes E om0 mt_82 135 [some (.ref 65), some (.ref 3), some (.int x2), some (.int (SI 10 (gj_n x2))), some (.int (SI 11 (gj_n x2)))] [] SI12 SJ12 (QV Q)
            refine gj_goq gj_clT ok_82 [20, 59, 70, 84, 100, 135] ?_
            show gj_Goes E om0 mt_82 20 [some (.ref 65), some (.ref 3), some (.int (x2 + (i3 1))), some (.int (SI 10 (gj_n x2))), some (.int (SI 11 (gj_n x2)))] [] SI12 SJ12 (QV Q)
            exact gj_fh q12 (And.intro (Or.inr rfl) (And.intro (Or.inr rfl) (And.intro (Or.inr rfl) (And.intro (Or.inl rfl) (And.intro (Or.inl rfl) trivial)))))
set_option maxRecDepth 20000 in
/-- GraspJudge$Trials.isFirmWith -/
theorem st_83 {E : gj_E} {Q : Int32 → gj_I → gj_J → Prop} (a1 : Int32) (a2 : Int32) (SI : gj_I) (SJ : gj_J) (h : DoV E 0 [(.ref 66)] SI SJ (fun SI2 SJ2 => GoI E mt_83 10 [some (.ref 65), some (.ref 3), some (.int a1), some (.int a2), some (.int (i3 0))] SI2 SJ2 Q)) : DoI E 83 [(.ref 65), (.ref 3), (.int a1), (.int a2)] SI SJ Q := by
  refine gj_start (M := mt_83) ok_83 (Nat.le_of_ble_eq_true rfl) ?_
  refine gj_goq gj_clT ok_83 [7, 10, 51, 79, 83] ?_
  show gj_Do E om0 (gj_mt 0) [(.ref 66)] SI SJ _
  refine gj_Do.mono h (fun v_ SI2 SJ2 h_ => ?_)
  obtain ⟨rfl, q1⟩ := h_
  show gj_Goes E om0 mt_83 7 [some (.ref 65), some (.ref 3), some (.int a1), some (.int a2), none] [] SI2 SJ2 (QI Q)
  refine gj_goq gj_clT ok_83 [7, 10, 51, 79, 83] ?_
  show gj_Goes E om0 mt_83 10 [some (.ref 65), some (.ref 3), some (.int a1), some (.int a2), some (.int (i3 0))] [] SI2 SJ2 (QI Q)
  exact q1
set_option maxRecDepth 20000 in
theorem lp_83_10 {E : gj_E} {Q : Int32 → gj_I → gj_J → Prop} (x2 : Int32) (x3 : Int32) (x4 : Int32) (SI : gj_I) (SJ : gj_J) (h : ((SI 3 5) ≤ x4 → DoV E 65 [(.ref 3), (.ref 66), (.int (SI 3 5)), (.int x2), (.int x3), (.int (SI 3 6)), (.int (SI 3 7))] SI SJ (fun SI2 SJ2 => DoI E 81 [(.ref 65)] SI2 SJ2 (fun r3 SI4 SJ4 => (r3 = 0 ∨ r3 = 1) ∧ (Q r3 SI4 SJ4)))) ∧ (¬ (SI 3 5) ≤ x4 → vp_in x4 6 ∧ (DoV E 65 [(.ref 3), (.ref 66), (.int x4), (.int (SI 12 (gj_n x4))), (.int (SI 13 (gj_n x4))), (.int (SI 3 6)), (.int (SI 3 7))] SI SJ (fun SI6 SJ6 => GoI E mt_83 10 [some (.ref 65), some (.ref 3), some (.int x2), some (.int x3), some (.int (x4 + (i3 1)))] SI6 SJ6 Q)))) : GoI E mt_83 10 [some (.ref 65), some (.ref 3), some (.int x2), some (.int x3), some (.int x4)] SI SJ Q := by
  refine gj_goq gj_clT ok_83 [7, 10, 51, 79, 83] ?_
  show ((SI 3 5) ≤ x4 → gj_Goes E om0 mt_83 57 [some (.ref 65), some (.ref 3), some (.int x2), some (.int x3), some (.int x4)] [] SI SJ (QI Q)) ∧ (¬ (SI 3 5) ≤ x4 → vp_in x4 6 ∧ (vp_in x4 6 ∧ (gj_Do E om0 (gj_mt 65) [(.ref 3), (.ref 66), (.int x4), (.int (SI 12 (gj_n x4))), (.int (SI 13 (gj_n x4))), (.int (SI 3 6)), (.int (SI 3 7))] SI SJ _)))
  refine ⟨fun c1 => ?_, fun c1 => ?_⟩
  · refine gj_goq gj_clT ok_83 [7, 10, 51, 79, 83] ?_
    show gj_Do E om0 (gj_mt 65) [(.ref 3), (.ref 66), (.int (SI 3 5)), (.int x2), (.int x3), (.int (SI 3 6)), (.int (SI 3 7))] SI SJ _
    refine gj_Do.mono (h.1 c1) (fun v_ SI2 SJ2 h_ => ?_)
    obtain ⟨rfl, q2⟩ := h_
    show gj_Goes E om0 mt_83 79 [some (.ref 65), some (.ref 3), some (.int x2), some (.int x3), some (.int x4)] [] SI2 SJ2 (QI Q)
    refine gj_goq gj_clT ok_83 [7, 10, 51, 79, 83] ?_
    show gj_Do E om0 (gj_mt 81) [(.ref 65)] SI2 SJ2 _
    refine gj_Do.mono q2 (fun v_ SI4 SJ4 h_ => ?_)
    obtain ⟨r3, rfl, q3⟩ := h_
    show gj_Goes E om0 mt_83 83 [some (.ref 65), some (.ref 3), some (.int x2), some (.int x3), some (.int x4)] [(.int r3)] SI4 SJ4 (QI Q)
    refine gj_goq gj_clT ok_83 [7, 10, 51, 79, 83] ?_
    show (r3 = 0 ∨ r3 = 1) ∧ (QI Q (some (.int r3)) SI4 SJ4)
    have k4 := q3.1
    refine ⟨k4, ?_⟩
    exact ⟨_, rfl, q3.2⟩
  · have k5 := (h.2 c1).1
    refine ⟨k5, ?_⟩
    refine ⟨k5, ?_⟩
    refine gj_Do.mono (h.2 c1).2 (fun v_ SI6 SJ6 h_ => ?_)
    obtain ⟨rfl, q6⟩ := h_
    show gj_Goes E om0 mt_83 51 [some (.ref 65), some (.ref 3), some (.int x2), some (.int x3), some (.int x4)] [] SI6 SJ6 (QI Q)
    refine gj_goq gj_clT ok_83 [7, 10, 51, 79, 83] ?_
    show gj_Goes E om0 mt_83 10 [some (.ref 65), some (.ref 3), some (.int x2), some (.int x3), some (.int (x4 + (i3 1)))] [] SI6 SJ6 (QI Q)
    exact q6
set_option maxRecDepth 20000 in
/-- GraspJudge$Trials.isStronger -/
theorem st_84_65_79 {E : gj_E} {Q : Int32 → gj_I → gj_J → Prop} (SI : gj_I) (SJ : gj_J) (h : DoI E 15 [(.ref 77), (.long (SJ 79 0)), (.long (SJ 79 1))] SI SJ (fun r1 SI2 SJ2 => (r1 = 0 ∨ r1 = 1) ∧ (Q r1 SI2 SJ2))) : DoI E 84 [(.ref 65), (.ref 79)] SI SJ Q := by
  refine gj_start (M := mt_84) ok_84 (Nat.le_of_ble_eq_true rfl) ?_
  refine gj_goq gj_clT ok_84 [18] ?_
  show gj_Do E om0 (gj_mt 15) [(.ref 77), (.long (SJ 79 0)), (.long (SJ 79 1))] SI SJ _
  refine gj_Do.mono h (fun v_ SI2 SJ2 h_ => ?_)
  obtain ⟨r1, rfl, q1⟩ := h_
  show gj_Goes E om0 mt_84 18 [some (.ref 65), some (.ref 79)] [(.int r1)] SI2 SJ2 (QI Q)
  refine gj_goq gj_clT ok_84 [18] ?_
  show (r1 = 0 ∨ r1 = 1) ∧ (QI Q (some (.int r1)) SI2 SJ2)
  have k2 := q1.1
  refine ⟨k2, ?_⟩
  exact ⟨_, rfl, q1.2⟩
set_option maxRecDepth 20000 in
theorem st_84_65_80 {E : gj_E} {Q : Int32 → gj_I → gj_J → Prop} (SI : gj_I) (SJ : gj_J) (h : DoI E 15 [(.ref 77), (.long (SJ 80 0)), (.long (SJ 80 1))] SI SJ (fun r1 SI2 SJ2 => (r1 = 0 ∨ r1 = 1) ∧ (Q r1 SI2 SJ2))) : DoI E 84 [(.ref 65), (.ref 80)] SI SJ Q := by
  refine gj_start (M := mt_84) ok_84 (Nat.le_of_ble_eq_true rfl) ?_
  refine gj_goq gj_clT ok_84 [18] ?_
  show gj_Do E om0 (gj_mt 15) [(.ref 77), (.long (SJ 80 0)), (.long (SJ 80 1))] SI SJ _
  refine gj_Do.mono h (fun v_ SI2 SJ2 h_ => ?_)
  obtain ⟨r1, rfl, q1⟩ := h_
  show gj_Goes E om0 mt_84 18 [some (.ref 65), some (.ref 80)] [(.int r1)] SI2 SJ2 (QI Q)
  refine gj_goq gj_clT ok_84 [18] ?_
  show (r1 = 0 ∨ r1 = 1) ∧ (QI Q (some (.int r1)) SI2 SJ2)
  have k2 := q1.1
  refine ⟨k2, ?_⟩
  exact ⟨_, rfl, q1.2⟩
set_option maxRecDepth 20000 in
/-- GraspJudge$Trials.seekCouple -/
theorem st_85 {E : gj_E} {Q : gj_I → gj_J → Prop} (SI : gj_I) (SJ : gj_J) (h : ((SI 65 5) = 0 → GoV E mt_85 20 [some (.ref 65), some (.ref 3), some (.int (i3 0)), none] (gj_u2 (gj_u2 SI 65 5 (i3 1)) 65 7 (i3 0)) SJ Q) ∧ (¬ (SI 65 5) = 0 → Q SI SJ)) : DoV E 85 [(.ref 65), (.ref 3)] SI SJ Q := by
  refine gj_start (M := mt_85) ok_85 (Nat.le_of_ble_eq_true rfl) ?_
  refine gj_goq gj_clT ok_85 [20, 35, 53, 62] ?_
  show ((SI 65 5) = 0 → gj_Goes E om0 mt_85 8 [some (.ref 65), some (.ref 3), none, none] [] SI SJ (QV Q)) ∧ (¬ (SI 65 5) = 0 → QV Q none SI SJ)
  refine ⟨fun c1 => ?_, fun c1 => ?_⟩
  · refine gj_goq gj_clT ok_85 [20, 35, 53, 62] ?_
    show ((i3 1) = 0 ∨ (i3 1) = 1) ∧ (gj_Goes E om0 mt_85 20 [some (.ref 65), some (.ref 3), some (.int (i3 0)), none] [] (gj_u2 (gj_u2 SI 65 5 (i3 1)) 65 7 (i3 0)) SJ (QV Q))
    refine ⟨(Or.inr rfl), ?_⟩
    exact (h.1 c1)
  · exact ⟨rfl, (h.2 c1)⟩
set_option maxRecDepth 20000 in
theorem lp_85_20 {E : gj_E} {Q : gj_I → gj_J → Prop} (x2 : Int32) (SI : gj_I) (SJ : gj_J) (h : ((SI 4 8) ≤ x2 → Q SI SJ) ∧ (¬ (SI 4 8) ≤ x2 → GoV E mt_85 35 [some (.ref 65), some (.ref 3), some (.int x2), some (.int (x2 + (i3 1)))] SI SJ Q)) : GoV E mt_85 20 [some (.ref 65), some (.ref 3), some (.int x2), none] SI SJ Q := by
  refine gj_goq gj_clT ok_85 [20, 35, 53, 62] ?_
  show ((SI 4 8) ≤ x2 → gj_Goes E om0 mt_85 74 [some (.ref 65), some (.ref 3), some (.int x2), none] [] SI SJ (QV Q)) ∧ (¬ (SI 4 8) ≤ x2 → gj_Goes E om0 mt_85 35 [some (.ref 65), some (.ref 3), some (.int x2), some (.int (x2 + (i3 1)))] [] SI SJ (QV Q))
  refine ⟨fun c1 => ?_, fun c1 => ?_⟩
  · refine gj_goq gj_clT ok_85 [20, 35, 53, 62] ?_
    show QV Q none SI SJ
    exact ⟨rfl, (h.1 c1)⟩
  · exact (h.2 c1)
set_option maxRecDepth 20000 in
theorem lp_85_35 {E : gj_E} {Q : gj_I → gj_J → Prop} (x2 : Int32) (x3 : Int32) (SI : gj_I) (SJ : gj_J) (h : ((SI 4 8) ≤ x3 → GoV E mt_85 20 [some (.ref 65), some (.ref 3), some (.int (x2 + (i3 1))), none] SI SJ Q) ∧ (¬ (SI 4 8) ≤ x3 → DoI E 86 [(.ref 65), (.ref 3), (.int x2), (.int x3)] SI SJ (fun r1 SI2 SJ2 => (r1 = 0 → GoV E mt_85 35 [some (.ref 65), some (.ref 3), some (.int x2), some (.int (x3 + (i3 1)))] SI2 SJ2 Q) ∧ (¬ r1 = 0 → DoV E 87 [(.ref 65), (.int x2), (.int x3)] SI2 SJ2 (fun SI4 SJ4 => GoV E mt_85 35 [some (.ref 65), some (.ref 3), some (.int x2), some (.int (x3 + (i3 1)))] SI4 SJ4 Q))))) : GoV E mt_85 35 [some (.ref 65), some (.ref 3), some (.int x2), some (.int x3)] SI SJ Q := by
  refine gj_goq gj_clT ok_85 [20, 35, 53, 62] ?_
  show ((SI 4 8) ≤ x3 → gj_Goes E om0 mt_85 68 [some (.ref 65), some (.ref 3), some (.int x2), some (.int x3)] [] SI SJ (QV Q)) ∧ (¬ (SI 4 8) ≤ x3 → gj_Do E om0 (gj_mt 86) [(.ref 65), (.ref 3), (.int x2), (.int x3)] SI SJ _)
  refine ⟨fun c1 => ?_, fun c1 => ?_⟩
  · refine gj_goq gj_clT ok_85 [20, 35, 53, 62] ?_
    show gj_Goes E om0 mt_85 20 [some (.ref 65), some (.ref 3), some (.int (x2 + (i3 1))), some (.int x3)] [] SI SJ (QV Q)
    exact gj_fh (h.1 c1) (And.intro (Or.inr rfl) (And.intro (Or.inr rfl) (And.intro (Or.inr rfl) (And.intro (Or.inl rfl) trivial))))
  · refine gj_Do.mono (h.2 c1) (fun v_ SI2 SJ2 h_ => ?_)
    obtain ⟨r1, rfl, q2⟩ := h_
    show gj_Goes E om0 mt_85 53 [some (.ref 65), some (.ref 3), some (.int x2), some (.int x3)] [(.int r1)] SI2 SJ2 (QV Q)
    refine gj_goq gj_clT ok_85 [20, 35, 53, 62] ?_
    show (r1 = 0 → gj_Goes E om0 mt_85 62 [some (.ref 65), some (.ref 3), some (.int x2), some (.int x3)] [] SI2 SJ2 (QV Q)) ∧ (¬ r1 = 0 → gj_Do E om0 (gj_mt 87) [(.ref 65), (.int x2), (.int x3)] SI2 SJ2 _)
    refine ⟨fun c3 => ?_, fun c3 => ?_⟩
    · refine gj_goq gj_clT ok_85 [20, 35, 53, 62] ?_
      show gj_Goes E om0 mt_85 35 [some (.ref 65), some (.ref 3), some (.int x2), some (.int (x3 + (i3 1)))] [] SI2 SJ2 (QV Q)
      exact (q2.1 c3)
    · refine gj_Do.mono (q2.2 c3) (fun v_ SI4 SJ4 h_ => ?_)
      obtain ⟨rfl, q4⟩ := h_
      show gj_Goes E om0 mt_85 62 [some (.ref 65), some (.ref 3), some (.int x2), some (.int x3)] [] SI4 SJ4 (QV Q)
      refine gj_goq gj_clT ok_85 [20, 35, 53, 62] ?_
      show gj_Goes E om0 mt_85 35 [some (.ref 65), some (.ref 3), some (.int x2), some (.int (x3 + (i3 1)))] [] SI4 SJ4 (QV Q)
      exact q4
set_option maxRecDepth 20000 in
/-- GraspJudge$Trials.isFirmCouple -/
theorem st_86 {E : gj_E} {Q : Int32 → gj_I → gj_J → Prop} (a1 : Int32) (a2 : Int32) (SI : gj_I) (SJ : gj_J) (h : DoV E 0 [(.ref 66)] SI SJ (fun SI2 SJ2 => vp_in a1 72 ∧ (DoV E 65 [(.ref 3), (.ref 66), (.int (i3 0)), (.int (SI2 10 (gj_n a1))), (.int (SI2 11 (gj_n a1))), (.int (SI2 3 6)), (.int (SI2 3 7))] SI2 SJ2 (fun SI4 SJ4 => vp_in a2 72 ∧ (DoV E 65 [(.ref 3), (.ref 66), (.int (i3 1)), (.int (SI4 10 (gj_n a2))), (.int (SI4 11 (gj_n a2))), (.int (SI4 3 6)), (.int (SI4 3 7))] SI4 SJ4 (fun SI6 SJ6 => DoI E 81 [(.ref 65)] SI6 SJ6 (fun r7 SI8 SJ8 => (r7 = 0 ∨ r7 = 1) ∧ (Q r7 SI8 SJ8)))))))) : DoI E 86 [(.ref 65), (.ref 3), (.int a1), (.int a2)] SI SJ Q := by
  refine gj_start (M := mt_86) ok_86 (Nat.le_of_ble_eq_true rfl) ?_
  refine gj_goq gj_clT ok_86 [7, 44, 75, 79] ?_
  show gj_Do E om0 (gj_mt 0) [(.ref 66)] SI SJ _
  refine gj_Do.mono h (fun v_ SI2 SJ2 h_ => ?_)
  obtain ⟨rfl, q1⟩ := h_
  show gj_Goes E om0 mt_86 7 [some (.ref 65), some (.ref 3), some (.int a1), some (.int a2), none] [] SI2 SJ2 (QI Q)
  refine gj_goq gj_clT ok_86 [7, 44, 75, 79] ?_
  show vp_in a1 72 ∧ (vp_in a1 72 ∧ (gj_Do E om0 (gj_mt 65) [(.ref 3), (.ref 66), (.int (i3 0)), (.int (SI2 10 (gj_n a1))), (.int (SI2 11 (gj_n a1))), (.int (SI2 3 6)), (.int (SI2 3 7))] SI2 SJ2 _))
  have k2 := q1.1
  refine ⟨k2, ?_⟩
  refine ⟨k2, ?_⟩
  refine gj_Do.mono q1.2 (fun v_ SI4 SJ4 h_ => ?_)
  obtain ⟨rfl, q3⟩ := h_
  show gj_Goes E om0 mt_86 44 [some (.ref 65), some (.ref 3), some (.int a1), some (.int a2), some (.ref 4)] [] SI4 SJ4 (QI Q)
  refine gj_goq gj_clT ok_86 [7, 44, 75, 79] ?_
  show vp_in a2 72 ∧ (vp_in a2 72 ∧ (gj_Do E om0 (gj_mt 65) [(.ref 3), (.ref 66), (.int (i3 1)), (.int (SI4 10 (gj_n a2))), (.int (SI4 11 (gj_n a2))), (.int (SI4 3 6)), (.int (SI4 3 7))] SI4 SJ4 _))
  have k4 := q3.1
  refine ⟨k4, ?_⟩
  refine ⟨k4, ?_⟩
  refine gj_Do.mono q3.2 (fun v_ SI6 SJ6 h_ => ?_)
  obtain ⟨rfl, q5⟩ := h_
  show gj_Goes E om0 mt_86 75 [some (.ref 65), some (.ref 3), some (.int a1), some (.int a2), some (.ref 4)] [] SI6 SJ6 (QI Q)
  refine gj_goq gj_clT ok_86 [7, 44, 75, 79] ?_
  show gj_Do E om0 (gj_mt 81) [(.ref 65)] SI6 SJ6 _
  refine gj_Do.mono q5 (fun v_ SI8 SJ8 h_ => ?_)
  obtain ⟨r7, rfl, q6⟩ := h_
  show gj_Goes E om0 mt_86 79 [some (.ref 65), some (.ref 3), some (.int a1), some (.int a2), some (.ref 4)] [(.int r7)] SI8 SJ8 (QI Q)
  refine gj_goq gj_clT ok_86 [7, 44, 75, 79] ?_
  show (r7 = 0 ∨ r7 = 1) ∧ (QI Q (some (.int r7)) SI8 SJ8)
  have k7 := q6.1
  refine ⟨k7, ?_⟩
  exact ⟨_, rfl, q6.2⟩
set_option maxRecDepth 20000 in
/-- GraspJudge$Trials.noteCouple -/
theorem st_87 {E : gj_E} {Q : gj_I → gj_J → Prop} (a1 : Int32) (a2 : Int32) (SI : gj_I) (SJ : gj_J) (h : DoV E 53 [(.ref 76), (.ref 66)] SI SJ (fun SI2 SJ2 => ((SI2 65 7) = 0 → DoV E 14 [(.ref 80), (.long (SJ2 77 0)), (.long (SJ2 77 1))] (gj_u2 (gj_u2 SI2 65 8 a1) 65 9 a2) SJ2 (fun SI4 SJ4 => Q (gj_u2 SI4 65 7 ((SI4 65 7) + (i3 1))) SJ4)) ∧ (¬ (SI2 65 7) = 0 → DoI E 84 [(.ref 65), (.ref 80)] SI2 SJ2 (fun r5 SI6 SJ6 => (r5 = 0 → Q (gj_u2 SI6 65 7 ((SI6 65 7) + (i3 1))) SJ6) ∧ (¬ r5 = 0 → DoV E 14 [(.ref 80), (.long (SJ6 77 0)), (.long (SJ6 77 1))] (gj_u2 (gj_u2 SI6 65 8 a1) 65 9 a2) SJ6 (fun SI8 SJ8 => Q (gj_u2 SI8 65 7 ((SI8 65 7) + (i3 1))) SJ8)))))) : DoV E 87 [(.ref 65), (.int a1), (.int a2)] SI SJ Q := by
  refine gj_start (M := mt_87) ok_87 (Nat.le_of_ble_eq_true rfl) ?_
  refine gj_goq gj_clT ok_87 [11, 26, 66] ?_
  show gj_Do E om0 (gj_mt 53) [(.ref 76), (.ref 66)] SI SJ _
  refine gj_Do.mono h (fun v_ SI2 SJ2 h_ => ?_)
  obtain ⟨rfl, q1⟩ := h_
  show gj_Goes E om0 mt_87 11 [some (.ref 65), some (.int a1), some (.int a2)] [] SI2 SJ2 (QV Q)
  refine gj_goq gj_clT ok_87 [11, 26, 66] ?_
  show ((SI2 65 7) = 0 → gj_Goes E om0 mt_87 29 [some (.ref 65), some (.int a1), some (.int a2)] [] SI2 SJ2 (QV Q)) ∧ (¬ (SI2 65 7) = 0 → gj_Do E om0 (gj_mt 84) [(.ref 65), (.ref 80)] SI2 SJ2 _)
  refine ⟨fun c2 => ?_, fun c2 => ?_⟩
  · refine gj_goq gj_clT ok_87 [11, 26, 66] ?_
    show gj_Do E om0 (gj_mt 14) [(.ref 80), (.long (SJ2 77 0)), (.long (SJ2 77 1))] (gj_u2 (gj_u2 SI2 65 8 a1) 65 9 a2) SJ2 _
    refine gj_Do.mono (q1.1 c2) (fun v_ SI4 SJ4 h_ => ?_)
    obtain ⟨rfl, q3⟩ := h_
    show gj_Goes E om0 mt_87 66 [some (.ref 65), some (.int a1), some (.int a2)] [] SI4 SJ4 (QV Q)
    refine gj_goq gj_clT ok_87 [11, 26, 66] ?_
    show QV Q none (gj_u2 SI4 65 7 ((SI4 65 7) + (i3 1))) SJ4
    exact ⟨rfl, q3⟩
  · refine gj_Do.mono (q1.2 c2) (fun v_ SI6 SJ6 h_ => ?_)
    obtain ⟨r5, rfl, q4⟩ := h_
    show gj_Goes E om0 mt_87 26 [some (.ref 65), some (.int a1), some (.int a2)] [(.int r5)] SI6 SJ6 (QV Q)
    refine gj_goq gj_clT ok_87 [11, 26, 66] ?_
    show (r5 = 0 → gj_Goes E om0 mt_87 66 [some (.ref 65), some (.int a1), some (.int a2)] [] SI6 SJ6 (QV Q)) ∧ (¬ r5 = 0 → gj_Do E om0 (gj_mt 14) [(.ref 80), (.long (SJ6 77 0)), (.long (SJ6 77 1))] (gj_u2 (gj_u2 SI6 65 8 a1) 65 9 a2) SJ6 _)
    refine ⟨fun c5 => ?_, fun c5 => ?_⟩
    · refine gj_goq gj_clT ok_87 [11, 26, 66] ?_
      show QV Q none (gj_u2 SI6 65 7 ((SI6 65 7) + (i3 1))) SJ6
      exact ⟨rfl, (q4.1 c5)⟩
    · refine gj_Do.mono (q4.2 c5) (fun v_ SI8 SJ8 h_ => ?_)
      obtain ⟨rfl, q6⟩ := h_
      show gj_Goes E om0 mt_87 66 [some (.ref 65), some (.int a1), some (.int a2)] [] SI8 SJ8 (QV Q)
      refine gj_goq gj_clT ok_87 [11, 26, 66] ?_
      show QV Q none (gj_u2 SI8 65 7 ((SI8 65 7) + (i3 1))) SJ8
      exact ⟨rfl, q6⟩
set_option maxRecDepth 20000 in
/-- GraspJudge$Trials.farthest -/
theorem st_88 {E : gj_E} {Q : Int32 → gj_I → gj_J → Prop} (a1 : Int32) (a2 : Int32) (SI : gj_I) (SJ : gj_J) (h : vp_in a1 6 ∧ (GoI E mt_88 19 [some (.ref 65), some (.ref 3), some (.int a1), some (.int a2), some (.int (SI 12 (gj_n a1))), some (.int (SI 13 (gj_n a1))), some (.int (i3 0)), none] SI SJ Q)) : DoI E 88 [(.ref 65), (.ref 3), (.int a1), (.int a2)] SI SJ Q := by
  refine gj_start (M := mt_88) ok_88 (Nat.le_of_ble_eq_true rfl) ?_
  refine gj_goq gj_clT ok_88 [19, 43, 54, 68] ?_
  show vp_in a1 6 ∧ (vp_in a1 6 ∧ (gj_Goes E om0 mt_88 19 [some (.ref 65), some (.ref 3), some (.int a1), some (.int a2), some (.int (SI 12 (gj_n a1))), some (.int (SI 13 (gj_n a1))), some (.int (i3 0)), none] [] SI SJ (QI Q)))
  have k1 := h.1
  refine ⟨k1, ?_⟩
  refine ⟨k1, ?_⟩
  exact h.2
set_option maxRecDepth 20000 in
theorem lp_88_19 {E : gj_E} {Q : Int32 → gj_I → gj_J → Prop} (x2 : Int32) (x3 : Int32) (x4 : Int32) (x5 : Int32) (x6 : Int32) (SI : gj_I) (SJ : gj_J) (h : ((i3 9) ≤ x6 → Q x5 SI SJ) ∧ (¬ (i3 9) ≤ x6 → DoI E 30 [(.ref 4), (.int x4), (.int (x5 + x3))] SI SJ (fun r1 SI2 SJ2 => (r1 = 0 → Q x5 SI2 SJ2) ∧ (¬ r1 = 0 → DoI E 63 [(.ref 3), (.int x4), (.int (x5 + x3))] SI2 SJ2 (fun r3 SI4 SJ4 => (r3 < 0 → DoI E 89 [(.ref 65), (.ref 3), (.int x2), (.int (x5 + x3))] SI4 SJ4 (fun r5 SI6 SJ6 => (¬ r5 = 0 → GoI E mt_88 19 [some (.ref 65), some (.ref 3), some (.int x2), some (.int x3), some (.int x4), some (.int (x5 + x3)), some (.int (x6 + (i3 1))), none] SI6 SJ6 Q) ∧ (r5 = 0 → Q x5 SI6 SJ6))) ∧ (¬ r3 < 0 → Q x5 SI4 SJ4)))))) : GoI E mt_88 19 [some (.ref 65), some (.ref 3), some (.int x2), some (.int x3), some (.int x4), some (.int x5), some (.int x6), none] SI SJ Q := by
  refine gj_goq gj_clT ok_88 [19, 43, 54, 68] ?_
  show ((i3 9) ≤ x6 → gj_Goes E om0 mt_88 84 [some (.ref 65), some (.ref 3), some (.int x2), some (.int x3), some (.int x4), some (.int x5), some (.int x6), none] [] SI SJ (QI Q)) ∧ (¬ (i3 9) ≤ x6 → gj_Do E om0 (gj_mt 30) [(.ref 4), (.int x4), (.int (x5 + x3))] SI SJ _)
  refine ⟨fun c1 => ?_, fun c1 => ?_⟩
  · refine gj_goq gj_clT ok_88 [19, 43, 54, 68] ?_
    show QI Q (some (.int x5)) SI SJ
    exact ⟨_, rfl, (h.1 c1)⟩
  · refine gj_Do.mono (h.2 c1) (fun v_ SI2 SJ2 h_ => ?_)
    obtain ⟨r1, rfl, q2⟩ := h_
    show gj_Goes E om0 mt_88 43 [some (.ref 65), some (.ref 3), some (.int x2), some (.int x3), some (.int x4), some (.int x5), some (.int x6), some (.int (x5 + x3))] [(.int r1)] SI2 SJ2 (QI Q)
    refine gj_goq gj_clT ok_88 [19, 43, 54, 68] ?_
    show (r1 = 0 → gj_Goes E om0 mt_88 57 [some (.ref 65), some (.ref 3), some (.int x2), some (.int x3), some (.int x4), some (.int x5), some (.int x6), some (.int (x5 + x3))] [] SI2 SJ2 (QI Q)) ∧ (¬ r1 = 0 → gj_Do E om0 (gj_mt 63) [(.ref 3), (.int x4), (.int (x5 + x3))] SI2 SJ2 _)
    refine ⟨fun c3 => ?_, fun c3 => ?_⟩
    · refine gj_goq gj_clT ok_88 [19, 43, 54, 68] ?_
      show QI Q (some (.int x5)) SI2 SJ2
      exact ⟨_, rfl, (q2.1 c3)⟩
    · refine gj_Do.mono (q2.2 c3) (fun v_ SI4 SJ4 h_ => ?_)
      obtain ⟨r3, rfl, q4⟩ := h_
      show gj_Goes E om0 mt_88 54 [some (.ref 65), some (.ref 3), some (.int x2), some (.int x3), some (.int x4), some (.int x5), some (.int x6), some (.int (x5 + x3))] [(.int r3)] SI4 SJ4 (QI Q)
      refine gj_goq gj_clT ok_88 [19, 43, 54, 68] ?_
      show (r3 < 0 → gj_Goes E om0 mt_88 60 [some (.ref 65), some (.ref 3), some (.int x2), some (.int x3), some (.int x4), some (.int x5), some (.int x6), some (.int (x5 + x3))] [] SI4 SJ4 (QI Q)) ∧ (¬ r3 < 0 → QI Q (some (.int x5)) SI4 SJ4)
      refine ⟨fun c5 => ?_, fun c5 => ?_⟩
      · refine gj_goq gj_clT ok_88 [19, 43, 54, 68] ?_
        show gj_Do E om0 (gj_mt 89) [(.ref 65), (.ref 3), (.int x2), (.int (x5 + x3))] SI4 SJ4 _
        refine gj_Do.mono (q4.1 c5) (fun v_ SI6 SJ6 h_ => ?_)
        obtain ⟨r5, rfl, q6⟩ := h_
        show gj_Goes E om0 mt_88 68 [some (.ref 65), some (.ref 3), some (.int x2), some (.int x3), some (.int x4), some (.int x5), some (.int x6), some (.int (x5 + x3))] [(.int r5)] SI6 SJ6 (QI Q)
        refine gj_goq gj_clT ok_88 [19, 43, 54, 68] ?_
        show (¬ r5 = 0 → gj_Goes E om0 mt_88 74 [some (.ref 65), some (.ref 3), some (.int x2), some (.int x3), some (.int x4), some (.int x5), some (.int x6), some (.int (x5 + x3))] [] SI6 SJ6 (QI Q)) ∧ (r5 = 0 → QI Q (some (.int x5)) SI6 SJ6)
        refine ⟨fun c7 => ?_, fun c7 => ?_⟩
        · refine gj_goq gj_clT ok_88 [19, 43, 54, 68] ?_
          show gj_Goes E om0 mt_88 19 [some (.ref 65), some (.ref 3), some (.int x2), some (.int x3), some (.int x4), some (.int (x5 + x3)), some (.int (x6 + (i3 1))), some (.int (x5 + x3))] [] SI6 SJ6 (QI Q)
          exact gj_fh (q6.1 c7) (And.intro (Or.inr rfl) (And.intro (Or.inr rfl) (And.intro (Or.inr rfl) (And.intro (Or.inr rfl) (And.intro (Or.inr rfl) (And.intro (Or.inr rfl) (And.intro (Or.inr rfl) (And.intro (Or.inl rfl) trivial))))))))
        · exact ⟨_, rfl, (q6.2 c7)⟩
      · exact ⟨_, rfl, (q4.2 c5)⟩
set_option maxRecDepth 20000 in
/-- GraspJudge$Trials.isFirmMoved -/
theorem st_89 {E : gj_E} {Q : Int32 → gj_I → gj_J → Prop} (a1 : Int32) (a2 : Int32) (SI : gj_I) (SJ : gj_J) (h : DoV E 0 [(.ref 66)] SI SJ (fun SI2 SJ2 => GoI E mt_89 10 [some (.ref 65), some (.ref 3), some (.int a1), some (.int a2), some (.int (i3 0)), none] SI2 SJ2 Q)) : DoI E 89 [(.ref 65), (.ref 3), (.int a1), (.int a2)] SI SJ Q := by
  refine gj_start (M := mt_89) ok_89 (Nat.le_of_ble_eq_true rfl) ?_
  refine gj_goq gj_clT ok_89 [7, 10, 65, 75] ?_
  show gj_Do E om0 (gj_mt 0) [(.ref 66)] SI SJ _
  refine gj_Do.mono h (fun v_ SI2 SJ2 h_ => ?_)
  obtain ⟨rfl, q1⟩ := h_
  show gj_Goes E om0 mt_89 7 [some (.ref 65), some (.ref 3), some (.int a1), some (.int a2), none, none] [] SI2 SJ2 (QI Q)
  refine gj_goq gj_clT ok_89 [7, 10, 65, 75] ?_
  show gj_Goes E om0 mt_89 10 [some (.ref 65), some (.ref 3), some (.int a1), some (.int a2), some (.int (i3 0)), none] [] SI2 SJ2 (QI Q)
  exact q1
set_option maxRecDepth 20000 in
theorem lp_89_10 {E : gj_E} {Q : Int32 → gj_I → gj_J → Prop} (x2 : Int32) (x3 : Int32) (x4 : Int32) (SI : gj_I) (SJ : gj_J) (h : ((SI 3 5) ≤ x4 → DoI E 81 [(.ref 65)] SI SJ (fun r1 SI2 SJ2 => (r1 = 0 ∨ r1 = 1) ∧ (Q r1 SI2 SJ2))) ∧ (¬ (SI 3 5) ≤ x4 → (¬ x4 = x2 → vp_in x4 6 ∧ (DoV E 65 [(.ref 3), (.ref 66), (.int x4), (.int (SI 12 (gj_n x4))), (.int (SI 13 (gj_n x4))), (.int (SI 3 6)), (.int (SI 3 7))] SI SJ (fun SI4 SJ4 => GoI E mt_89 10 [some (.ref 65), some (.ref 3), some (.int x2), some (.int x3), some (.int (x4 + (i3 1))), none] SI4 SJ4 Q))) ∧ (x4 = x2 → vp_in x4 6 ∧ (DoV E 65 [(.ref 3), (.ref 66), (.int x4), (.int (SI 12 (gj_n x4))), (.int x3), (.int (SI 3 6)), (.int (SI 3 7))] SI SJ (fun SI6 SJ6 => GoI E mt_89 10 [some (.ref 65), some (.ref 3), some (.int x2), some (.int x3), some (.int (x4 + (i3 1))), none] SI6 SJ6 Q))))) : GoI E mt_89 10 [some (.ref 65), some (.ref 3), some (.int x2), some (.int x3), some (.int x4), none] SI SJ Q := by
  refine gj_goq gj_clT ok_89 [7, 10, 65, 75] ?_
  show ((SI 3 5) ≤ x4 → gj_Goes E om0 mt_89 71 [some (.ref 65), some (.ref 3), some (.int x2), some (.int x3), some (.int x4), none] [] SI SJ (QI Q)) ∧ (¬ (SI 3 5) ≤ x4 → (¬ x4 = x2 → gj_Goes E om0 mt_89 29 [some (.ref 65), some (.ref 3), some (.int x2), some (.int x3), some (.int x4), none] [] SI SJ (QI Q)) ∧ (x4 = x2 → gj_Goes E om0 mt_89 36 [some (.ref 65), some (.ref 3), some (.int x2), some (.int x3), some (.int x4), none] [(.int x3)] SI SJ (QI Q)))
  refine ⟨fun c1 => ?_, fun c1 => ?_⟩
  · refine gj_goq gj_clT ok_89 [7, 10, 65, 75] ?_
    show gj_Do E om0 (gj_mt 81) [(.ref 65)] SI SJ _
    refine gj_Do.mono (h.1 c1) (fun v_ SI2 SJ2 h_ => ?_)
    obtain ⟨r1, rfl, q2⟩ := h_
    show gj_Goes E om0 mt_89 75 [some (.ref 65), some (.ref 3), some (.int x2), some (.int x3), some (.int x4), none] [(.int r1)] SI2 SJ2 (QI Q)
    refine gj_goq gj_clT ok_89 [7, 10, 65, 75] ?_
    show (r1 = 0 ∨ r1 = 1) ∧ (QI Q (some (.int r1)) SI2 SJ2)
    have k3 := q2.1
    refine ⟨k3, ?_⟩
    exact ⟨_, rfl, q2.2⟩
  · refine ⟨fun c4 => ?_, fun c4 => ?_⟩
    · refine gj_goq gj_clT ok_89 [7, 10, 65, 75] ?_
      show vp_in x4 6 ∧ (vp_in x4 6 ∧ (gj_Do E om0 (gj_mt 65) [(.ref 3), (.ref 66), (.int x4), (.int (SI 12 (gj_n x4))), (.int (SI 13 (gj_n x4))), (.int (SI 3 6)), (.int (SI 3 7))] SI SJ _))
      have k5 := ((h.2 c1).1 c4).1
      refine ⟨k5, ?_⟩
      refine ⟨k5, ?_⟩
      refine gj_Do.mono ((h.2 c1).1 c4).2 (fun v_ SI4 SJ4 h_ => ?_)
      obtain ⟨rfl, q6⟩ := h_
      show gj_Goes E om0 mt_89 65 [some (.ref 65), some (.ref 3), some (.int x2), some (.int x3), some (.int x4), some (.int (SI 13 (gj_n x4)))] [] SI4 SJ4 (QI Q)
      refine gj_goq gj_clT ok_89 [7, 10, 65, 75] ?_
      show gj_Goes E om0 mt_89 10 [some (.ref 65), some (.ref 3), some (.int x2), some (.int x3), some (.int (x4 + (i3 1))), some (.int (SI 13 (gj_n x4)))] [] SI4 SJ4 (QI Q)
      exact gj_fh q6 (And.intro (Or.inr rfl) (And.intro (Or.inr rfl) (And.intro (Or.inr rfl) (And.intro (Or.inr rfl) (And.intro (Or.inr rfl) (And.intro (Or.inl rfl) trivial))))))
    · refine gj_goq gj_clT ok_89 [7, 10, 65, 75] ?_
      show vp_in x4 6 ∧ (gj_Do E om0 (gj_mt 65) [(.ref 3), (.ref 66), (.int x4), (.int (SI 12 (gj_n x4))), (.int x3), (.int (SI 3 6)), (.int (SI 3 7))] SI SJ _)
      have k7 := ((h.2 c1).2 c4).1
      refine ⟨k7, ?_⟩
      refine gj_Do.mono ((h.2 c1).2 c4).2 (fun v_ SI6 SJ6 h_ => ?_)
      obtain ⟨rfl, q8⟩ := h_
      show gj_Goes E om0 mt_89 65 [some (.ref 65), some (.ref 3), some (.int x2), some (.int x3), some (.int x4), some (.int x3)] [] SI6 SJ6 (QI Q)
      refine gj_goq gj_clT ok_89 [7, 10, 65, 75] ?_
      show gj_Goes E om0 mt_89 10 [some (.ref 65), some (.ref 3), some (.int x2), some (.int x3), some (.int (x4 + (i3 1))), some (.int x3)] [] SI6 SJ6 (QI Q)
      exact gj_fh q8 (And.intro (Or.inr rfl) (And.intro (Or.inr rfl) (And.intro (Or.inr rfl) (And.intro (Or.inr rfl) (And.intro (Or.inr rfl) (And.intro (Or.inl rfl) trivial))))))
set_option maxRecDepth 20000 in
/-- GraspJudge$Trials.leastTread -/
theorem st_90 {E : gj_E} {Q : Int32 → gj_I → gj_J → Prop} (SI : gj_I) (SJ : gj_J) (h : GoI E mt_90 2 [some (.ref 65), some (.ref 3), some (.int (i3 0)), none] SI SJ Q) : DoI E 90 [(.ref 65), (.ref 3)] SI SJ Q := by
  refine gj_start (M := mt_90) ok_90 (Nat.le_of_ble_eq_true rfl) ?_
  refine gj_goq gj_clT ok_90 [2, 25, 27, 66, 76] ?_
  show gj_Goes E om0 mt_90 2 [some (.ref 65), some (.ref 3), some (.int (i3 0)), none] [] SI SJ (QI Q)
  exact h
set_option maxRecDepth 20000 in
theorem lp_90_2 {E : gj_E} {Q : Int32 → gj_I → gj_J → Prop} (x2 : Int32) (SI : gj_I) (SJ : gj_J) (h : ((i3 8) ≤ x2 → Q (i3 (-1)) SI SJ) ∧ (¬ (i3 8) ≤ x2 → ((i3 8) ≤ x2 → Q (i3 (-1)) SI SJ) ∧ (¬ (i3 8) ≤ x2 → DoV E 0 [(.ref 66)] SI SJ (fun SI2 SJ2 => GoI E mt_90 27 [some (.ref 65), some (.ref 3), some (.int x2), some (.int (i3 0))] SI2 SJ2 Q)))) : GoI E mt_90 2 [some (.ref 65), some (.ref 3), some (.int x2), none] SI SJ Q := by
  refine gj_goq gj_clT ok_90 [2, 25, 27, 66, 76] ?_
  show ((i3 8) ≤ x2 → gj_Goes E om0 mt_90 87 [some (.ref 65), some (.ref 3), some (.int x2), none] [] SI SJ (QI Q)) ∧ (¬ (i3 8) ≤ x2 → ((i3 8) ≤ x2 → gj_Goes E om0 mt_90 87 [some (.ref 65), some (.ref 3), some (.int x2), none] [] SI SJ (QI Q)) ∧ (¬ (i3 8) ≤ x2 → gj_Do E om0 (gj_mt 0) [(.ref 66)] SI SJ _))
  refine ⟨fun c1 => ?_, fun c1 => ?_⟩
  · refine gj_goq gj_clT ok_90 [2, 25, 27, 66, 76] ?_
    show QI Q (some (.int (i3 (-1)))) SI SJ
    exact ⟨_, rfl, (h.1 c1)⟩
  · refine ⟨fun c2 => ?_, fun c2 => ?_⟩
    · refine gj_goq gj_clT ok_90 [2, 25, 27, 66, 76] ?_
      show QI Q (some (.int (i3 (-1)))) SI SJ
      exact ⟨_, rfl, ((h.2 c1).1 c2)⟩
    · refine gj_Do.mono ((h.2 c1).2 c2) (fun v_ SI2 SJ2 h_ => ?_)
      obtain ⟨rfl, q3⟩ := h_
      show gj_Goes E om0 mt_90 25 [some (.ref 65), some (.ref 3), some (.int x2), none] [] SI2 SJ2 (QI Q)
      refine gj_goq gj_clT ok_90 [2, 25, 27, 66, 76] ?_
      show gj_Goes E om0 mt_90 27 [some (.ref 65), some (.ref 3), some (.int x2), some (.int (i3 0))] [] SI2 SJ2 (QI Q)
      exact q3
set_option maxRecDepth 20000 in
theorem lp_90_27 {E : gj_E} {Q : Int32 → gj_I → gj_J → Prop} (x2 : Int32) (x3 : Int32) (SI : gj_I) (SJ : gj_J) (h : ((SI 3 5) ≤ x3 → DoI E 81 [(.ref 65)] SI SJ (fun r1 SI2 SJ2 => (r1 = 0 → GoI E mt_90 2 [some (.ref 65), some (.ref 3), some (.int (x2 + (i3 1))), none] SI2 SJ2 Q) ∧ (¬ r1 = 0 → Q x2 SI2 SJ2))) ∧ (¬ (SI 3 5) ≤ x3 → vp_in x3 6 ∧ (vp_in x2 8 ∧ (DoV E 65 [(.ref 3), (.ref 66), (.int x3), (.int (SI 12 (gj_n x3))), (.int (SI 13 (gj_n x3))), (.int (gj_stf E 0 (gj_n x2))), (.int (gj_stf E 1 (gj_n x2)))] SI SJ (fun SI4 SJ4 => GoI E mt_90 27 [some (.ref 65), some (.ref 3), some (.int x2), some (.int (x3 + (i3 1)))] SI4 SJ4 Q))))) : GoI E mt_90 27 [some (.ref 65), some (.ref 3), some (.int x2), some (.int x3)] SI SJ Q := by
  refine gj_goq gj_clT ok_90 [2, 25, 27, 66, 76] ?_
  show ((SI 3 5) ≤ x3 → gj_Goes E om0 mt_90 72 [some (.ref 65), some (.ref 3), some (.int x2), some (.int x3)] [] SI SJ (QI Q)) ∧ (¬ (SI 3 5) ≤ x3 → vp_in x3 6 ∧ (vp_in x3 6 ∧ (vp_in x2 8 ∧ (vp_in x2 8 ∧ (gj_Do E om0 (gj_mt 65) [(.ref 3), (.ref 66), (.int x3), (.int (SI 12 (gj_n x3))), (.int (SI 13 (gj_n x3))), (.int (gj_stf E 0 (gj_n x2))), (.int (gj_stf E 1 (gj_n x2)))] SI SJ _)))))
  refine ⟨fun c1 => ?_, fun c1 => ?_⟩
  · refine gj_goq gj_clT ok_90 [2, 25, 27, 66, 76] ?_
    show gj_Do E om0 (gj_mt 81) [(.ref 65)] SI SJ _
    refine gj_Do.mono (h.1 c1) (fun v_ SI2 SJ2 h_ => ?_)
    obtain ⟨r1, rfl, q2⟩ := h_
    show gj_Goes E om0 mt_90 76 [some (.ref 65), some (.ref 3), some (.int x2), some (.int x3)] [(.int r1)] SI2 SJ2 (QI Q)
    refine gj_goq gj_clT ok_90 [2, 25, 27, 66, 76] ?_
    show (r1 = 0 → gj_Goes E om0 mt_90 81 [some (.ref 65), some (.ref 3), some (.int x2), some (.int x3)] [] SI2 SJ2 (QI Q)) ∧ (¬ r1 = 0 → QI Q (some (.int x2)) SI2 SJ2)
    refine ⟨fun c3 => ?_, fun c3 => ?_⟩
    · refine gj_goq gj_clT ok_90 [2, 25, 27, 66, 76] ?_
      show gj_Goes E om0 mt_90 2 [some (.ref 65), some (.ref 3), some (.int (x2 + (i3 1))), some (.int x3)] [] SI2 SJ2 (QI Q)
      exact gj_fh (q2.1 c3) (And.intro (Or.inr rfl) (And.intro (Or.inr rfl) (And.intro (Or.inr rfl) (And.intro (Or.inl rfl) trivial))))
    · exact ⟨_, rfl, (q2.2 c3)⟩
  · have k4 := (h.2 c1).1
    refine ⟨k4, ?_⟩
    refine ⟨k4, ?_⟩
    have k5 := (h.2 c1).2.1
    refine ⟨k5, ?_⟩
    refine ⟨k5, ?_⟩
    refine gj_Do.mono (h.2 c1).2.2 (fun v_ SI4 SJ4 h_ => ?_)
    obtain ⟨rfl, q6⟩ := h_
    show gj_Goes E om0 mt_90 66 [some (.ref 65), some (.ref 3), some (.int x2), some (.int x3)] [] SI4 SJ4 (QI Q)
    refine gj_goq gj_clT ok_90 [2, 25, 27, 66, 76] ?_
    show gj_Goes E om0 mt_90 27 [some (.ref 65), some (.ref 3), some (.int x2), some (.int (x3 + (i3 1)))] [] SI4 SJ4 (QI Q)
    exact q6
