/-! at: derive in a world that is still being made: conditions printed by a program, then its spec -/
def DoIq (om : gj_Om) (E : gj_E) (mid : Nat) (As : List Value) (SI : gj_I) (SJ : gj_J) (Q : Int32 → gj_I → gj_J → Prop) : Prop := gj_Do E om (gj_mt mid) As SI SJ (QI Q)
def GoIq (om : gj_Om) (E : gj_E) (M : gj_M) (pc : Nat) (ls : gj_O) (SI : gj_I) (SJ : gj_J) (Q : Int32 → gj_I → gj_J → Prop) : Prop := gj_Goes E om M pc ls [] SI SJ (QI Q)
def DoLq (om : gj_Om) (E : gj_E) (mid : Nat) (As : List Value) (SI : gj_I) (SJ : gj_J) (Q : Int64 → gj_I → gj_J → Prop) : Prop := gj_Do E om (gj_mt mid) As SI SJ (QL Q)
def GoLq (om : gj_Om) (E : gj_E) (M : gj_M) (pc : Nat) (ls : gj_O) (SI : gj_I) (SJ : gj_J) (Q : Int64 → gj_I → gj_J → Prop) : Prop := gj_Goes E om M pc ls [] SI SJ (QL Q)
def DoVq (om : gj_Om) (E : gj_E) (mid : Nat) (As : List Value) (SI : gj_I) (SJ : gj_J) (Q : gj_I → gj_J → Prop) : Prop := gj_Do E om (gj_mt mid) As SI SJ (QV Q)
def GoVq (om : gj_Om) (E : gj_E) (M : gj_M) (pc : Nat) (ls : gj_O) (SI : gj_I) (SJ : gj_J) (Q : gj_I → gj_J → Prop) : Prop := gj_Goes E om M pc ls [] SI SJ (QV Q)
set_option maxHeartbeats 4000000 in
set_option maxRecDepth 20000 in
theorem st_154q {om : gj_Om} {E : gj_E} {Q : Int64 → gj_I → gj_J → Prop} (a1 : Int64) (a2 : Int64) (SI : gj_I) (SJ : gj_J) (h : GoLq om E mt_154 9 [none, none, none, none, some (.long a1), none, some (.long a2), none, some (.int (i3 0)), none, none] SI SJ Q) : DoLq om E 154 [(.long a1), (.long a2)] SI SJ Q := by
  refine gj_start (M := mt_154) ok_154 (Nat.le_of_ble_eq_true rfl) ?_
  refine gj_goq gj_clT ok_154 [9] ?_
  show gj_Goes E om mt_154 9 [some (.long a1), none, some (.long a2), none, some (.long a1), none, some (.long a2), none, some (.int (i3 0)), none, none] [] SI SJ (QL Q)
  exact gj_fh h (And.intro (Or.inl rfl) (And.intro (Or.inl rfl) (And.intro (Or.inl rfl) (And.intro (Or.inl rfl) (And.intro (Or.inr rfl) (And.intro (Or.inl rfl) (And.intro (Or.inr rfl) (And.intro (Or.inl rfl) (And.intro (Or.inr rfl) (And.intro (Or.inl rfl) (And.intro (Or.inl rfl) trivial)))))))))))
set_option maxHeartbeats 4000000 in
set_option maxRecDepth 20000 in
theorem lp_154_9q {om : gj_Om} {E : gj_E} {Q : Int64 → gj_I → gj_J → Prop} (x4 : Int64) (x6 : Int64) (x8 : Int32) (SI : gj_I) (SJ : gj_J) (h : ((i3 200) ≤ x8 → (x4 ≥ (i6 0) → Q x4 SI SJ) ∧ (¬ x4 ≥ (i6 0) → Q (-x4) SI SJ)) ∧ (¬ (i3 200) ≤ x8 → (x6 = (i6 0) → (x4 ≥ (i6 0) → Q x4 SI SJ) ∧ (¬ x4 ≥ (i6 0) → Q (-x4) SI SJ)) ∧ (¬ x6 = (i6 0) → ¬ x6 = 0 ∧ (GoLq om E mt_154 9 [none, none, none, none, some (.long x6), none, some (.long (x4 - x4 / x6 * x6)), none, some (.int (x8 + (i3 1))), none, none] SI SJ Q)))) : GoLq om E mt_154 9 [none, none, none, none, some (.long x4), none, some (.long x6), none, some (.int x8), none, none] SI SJ Q := by
  refine gj_goq gj_clT ok_154 [9] ?_
  show ((i3 200) ≤ x8 → gj_Goes E om mt_154 45 [none, none, none, none, some (.long x4), none, some (.long x6), none, some (.int x8), none, none] [] SI SJ (QL Q)) ∧ (¬ (i3 200) ≤ x8 → ((lg_cmp x6 (i6 0)) = 0 → gj_Goes E om mt_154 45 [none, none, none, none, some (.long x4), none, some (.long x6), none, some (.int x8), none, none] [] SI SJ (QL Q)) ∧ (¬ (lg_cmp x6 (i6 0)) = 0 → ¬ x6 = 0 ∧ (gj_Goes E om mt_154 9 [none, none, none, none, some (.long x6), none, some (.long (x4 - x4 / x6 * x6)), none, some (.int (x8 + (i3 1))), some (.long (x4 - x4 / x6 * x6)), none] [] SI SJ (QL Q))))
  refine ⟨fun c1 => ?_, fun c1 => ?_⟩
  · refine gj_goq gj_clT ok_154 [9] ?_
    show (0 ≤ (lg_cmp x4 (i6 0)) → gj_Goes E om mt_154 58 [none, none, none, none, some (.long x4), none, some (.long x6), none, some (.int x8), none, none] [] SI SJ (QL Q)) ∧ (¬ 0 ≤ (lg_cmp x4 (i6 0)) → gj_Goes E om mt_154 60 [none, none, none, none, some (.long x4), none, some (.long x6), none, some (.int x8), none, none] [(.long (-x4))] SI SJ (QL Q))
    refine ⟨fun c2 => ?_, fun c2 => ?_⟩
    · refine gj_goq gj_clT ok_154 [9] ?_
      show QL Q (some (.long x4)) SI SJ
      exact ⟨_, rfl, ((h.1 c1).1 (lgc_ge.mp c2))⟩
    · refine gj_goq gj_clT ok_154 [9] ?_
      show QL Q (some (.long (-x4))) SI SJ
      exact ⟨_, rfl, ((h.1 c1).2 (fun z_ => c2 (lgc_ge.mpr z_)))⟩
  · refine ⟨fun c3 => ?_, fun c3 => ?_⟩
    · refine gj_goq gj_clT ok_154 [9] ?_
      show (0 ≤ (lg_cmp x4 (i6 0)) → gj_Goes E om mt_154 58 [none, none, none, none, some (.long x4), none, some (.long x6), none, some (.int x8), none, none] [] SI SJ (QL Q)) ∧ (¬ 0 ≤ (lg_cmp x4 (i6 0)) → gj_Goes E om mt_154 60 [none, none, none, none, some (.long x4), none, some (.long x6), none, some (.int x8), none, none] [(.long (-x4))] SI SJ (QL Q))
      refine ⟨fun c4 => ?_, fun c4 => ?_⟩
      · refine gj_goq gj_clT ok_154 [9] ?_
        show QL Q (some (.long x4)) SI SJ
        exact ⟨_, rfl, (((h.2 c1).1 (lgc_eq.mp c3)).1 (lgc_ge.mp c4))⟩
      · refine gj_goq gj_clT ok_154 [9] ?_
        show QL Q (some (.long (-x4))) SI SJ
        exact ⟨_, rfl, (((h.2 c1).1 (lgc_eq.mp c3)).2 (fun z_ => c4 (lgc_ge.mpr z_)))⟩
    · have k5 := ((h.2 c1).2 (fun z_ => c3 (lgc_eq.mpr z_))).1
      refine ⟨k5, ?_⟩
      exact gj_fh ((h.2 c1).2 (fun z_ => c3 (lgc_eq.mpr z_))).2 (And.intro (Or.inl rfl) (And.intro (Or.inl rfl) (And.intro (Or.inl rfl) (And.intro (Or.inl rfl) (And.intro (Or.inr rfl) (And.intro (Or.inl rfl) (And.intro (Or.inr rfl) (And.intro (Or.inl rfl) (And.intro (Or.inr rfl) (And.intro (Or.inl rfl) (And.intro (Or.inl rfl) trivial)))))))))))
section DivQ
variable {om : gj_Om} {E : gj_E} {SI : gj_I} {SJ : gj_J}
theorem sp_div_lpq {Q : Int64 → gj_I → gj_J → Prop} : ∀ (n k : Nat) (x y : Int), y.natAbs < 2 ^ n → x.natAbs < 9223372036854775808 → y.natAbs < 9223372036854775808 → k + 2 * n ≤ 200 → Q (i6 (Int.gcd x y : Nat)) SI SJ → GoLq om E mt_154 9 [none, none, none, none, some (.long (i6 x)), none, some (.long (i6 y)), none, some (.int (i3 k)), none, none] SI SJ Q := by
  intro n
  induction n with
  | zero =>
    intro k x y hy hx h2 hk h
    have hy : y.natAbs < 1 := hy
    have : y = 0 := by omega
    subst this
    rw [Int.gcd_zero_right] at h
    exact lp_154_9q _ _ _ SI SJ ⟨fun _ => dv_end hx h, fun _ => ⟨fun _ => dv_end hx h, fun c => absurd rfl c⟩⟩
  | succ n ih =>
    intro k x y hy hx h2 hk h
    refine lp_154_9q _ _ _ SI SJ ?_
    rw [i3_le (by omega) (by omega) (by omega) (by omega), i6_eq (by omega) (by omega) (by omega) (by omega)]
    refine ⟨fun c => absurd c (by omega), fun _ => ⟨fun c => ?_, fun c => ⟨?_, ?_⟩⟩⟩
    · subst c
      rw [Int.gcd_zero_right] at h; exact dv_end hx h
    · rw [i6_z, i6_eq (by omega) (by omega) (by omega) (by omega)]; exact c
    · have h0 : 0 < y.natAbs := by omega
      rw [i6_remT hx h2, i3_add, show (k : Int) + 1 = ((k + 1 : Nat) : Int) by omega]
      have hm := Nat.mod_lt x.natAbs h0
      rw [← Int.natAbs_tmod] at hm
      rw [← gcd_stepI] at h
      generalize x.tmod y = r at hm h
      refine lp_154_9q _ _ _ SI SJ ?_
      rw [i3_le (by omega) (by omega) (by omega) (by omega), i6_eq (by omega) (by omega) (by omega) (by omega)]
      refine ⟨fun c => absurd c (by omega), fun _ => ⟨fun c => ?_, fun c => ⟨?_, ?_⟩⟩⟩
      · subst c
        rw [Int.gcd_zero_right] at h; exact dv_end h2 h
      · rw [i6_z, i6_eq (by omega) (by omega) (by omega) (by omega)]; exact c
      · have h1 : 0 < r.natAbs := by omega
        rw [i6_remT h2 (by omega), i3_add, show ((k + 1 : Nat) : Int) + 1 = ((k + 2 : Nat) : Int) by omega]
        have hh := half_mod h1 hm
        rw [← Int.natAbs_tmod] at hh
        rw [← gcd_stepI] at h
        have hp : 2 ^ (n + 1) = 2 ^ n * 2 := Nat.pow_succ 2 n
        generalize y.tmod r = z at hh h
        exact ih (k + 2) r z (by omega) (by omega) (by omega) (by omega) h
theorem sp_divisorq {Q : Int64 → gj_I → gj_J → Prop} {a b : Int} (h1 : -9223372036854775808 < a) (h2 : a < 9223372036854775808) (h3 : -9223372036854775808 < b) (h4 : b < 9223372036854775808) (h : Q (i6 (Int.gcd a b : Nat)) SI SJ) : DoLq om E 154 [(.long (i6 a)), (.long (i6 b))] SI SJ Q := by
  refine st_154q _ _ SI SJ ?_
  exact sp_div_lpq 63 0 a b (by omega) (by omega) (by omega) (by decide) h
end DivQ
abbrev omP4 : gj_Om := (12, gj_Rq 9)
set_option maxHeartbeats 4000000 in
set_option maxRecDepth 20000 in
theorem st_29_4q {E : gj_E} {Q : Int32 → gj_I → gj_J → Prop} (a1 : Int32) (SI : gj_I) (SJ : gj_J) (h : ((SI 4 7) ≤ (a1 + (i3 1)) → Q (i3 0) SI SJ) ∧ (¬ (SI 4 7) ≤ (a1 + (i3 1)) → Q (a1 + (i3 1)) SI SJ)) : DoIq omP4 E 29 [(.ref 4), (.int a1)] SI SJ Q := by
  refine gj_start (M := mt_29) ok_29 (Nat.le_of_ble_eq_true rfl) ?_
  refine gj_goq gj_clT ok_29 [] ?_
  show ((SI 4 7) ≤ (a1 + (i3 1)) → gj_Goes E omP4 mt_29 16 [some (.ref 4), some (.int a1)] [] SI SJ (QI Q)) ∧ (¬ (SI 4 7) ≤ (a1 + (i3 1)) → gj_Goes E omP4 mt_29 17 [some (.ref 4), some (.int a1)] [(.int (a1 + (i3 1)))] SI SJ (QI Q))
  refine ⟨fun c1 => ?_, fun c1 => ?_⟩
  · refine gj_goq gj_clT ok_29 [] ?_
    show QI Q (some (.int (i3 0))) SI SJ
    exact ⟨_, rfl, (h.1 c1)⟩
  · refine gj_goq gj_clT ok_29 [] ?_
    show QI Q (some (.int (a1 + (i3 1)))) SI SJ
    exact ⟨_, rfl, (h.2 c1)⟩
set_option maxHeartbeats 4000000 in
set_option maxRecDepth 20000 in
theorem st_28_4q {E : gj_E} {Q : gj_I → gj_J → Prop} (SI : gj_I) (SJ : gj_J) (h : GoVq omP4 E mt_28 7 [some (.ref 4), some (.int (i3 0)), none, none, none, none] (gj_u2 SI 4 8 (i3 0)) SJ Q) : DoVq omP4 E 28 [(.ref 4)] SI SJ Q := by
  refine gj_start (M := mt_28) ok_28 (Nat.le_of_ble_eq_true rfl) ?_
  refine gj_goq gj_clT ok_28 [7, 24, 42, 58, 112] ?_
  show gj_Goes E omP4 mt_28 7 [some (.ref 4), some (.int (i3 0)), none, none, none, none] [] (gj_u2 SI 4 8 (i3 0)) SJ (QV Q)
  exact h
set_option maxHeartbeats 4000000 in
set_option maxRecDepth 20000 in
theorem lp_28_7_4q {E : gj_E} {Q : gj_I → gj_J → Prop} (x1 : Int32) (SI : gj_I) (SJ : gj_J) (h : ((SI 4 7) ≤ x1 → Q SI SJ) ∧ (¬ (SI 4 7) ≤ x1 → DoIq omP4 E 29 [(.ref 4), (.int x1)] SI SJ (fun r1 SI2 SJ2 => vp_in r1 8 ∧ (vp_in x1 8 ∧ (DoIq omP4 E 29 [(.ref 4), (.int x1)] SI2 SJ2 (fun r3 SI4 SJ4 => vp_in r3 8 ∧ (DoLq omP4 E 154 [(.long ((SI2 5 (gj_n r1)) - (SI2 5 (gj_n x1))).toInt64), (.long ((SI4 6 (gj_n r3)) - (SI4 6 (gj_n x1))).toInt64)] SI4 SJ4 (fun r5 SI6 SJ6 => ((r5).toInt32 ≤ (i3 1) → ((r5).toInt32 ≤ (i3 1) → GoVq omP4 E mt_28 112 [some (.ref 4), some (.int x1), none, none, some (.int (r5).toInt32), some (.int (i3 1))] (gj_u2 (gj_u2 (gj_u2 SI6 9 (gj_n x1) (r5).toInt32) 7 (gj_n x1) ((SI2 5 (gj_n r1)) - (SI2 5 (gj_n x1)))) 8 (gj_n x1) ((SI4 6 (gj_n r3)) - (SI4 6 (gj_n x1)))) SJ6 Q) ∧ (¬ (r5).toInt32 ≤ (i3 1) → ¬ (r5).toInt32 = 0 ∧ (GoVq omP4 E mt_28 112 [some (.ref 4), some (.int x1), none, none, some (.int (r5).toInt32), some (.int (i3 1))] (gj_u2 (gj_u2 (gj_u2 SI6 9 (gj_n x1) (r5).toInt32) 7 (gj_n x1) ((SI2 5 (gj_n r1)) - (SI2 5 (gj_n x1)))) 8 (gj_n x1) (((SI4 6 (gj_n r3)) - (SI4 6 (gj_n x1))) / (r5).toInt32)) SJ6 Q))) ∧ (¬ (r5).toInt32 ≤ (i3 1) → ¬ (r5).toInt32 = 0 ∧ (((r5).toInt32 ≤ (i3 1) → GoVq omP4 E mt_28 112 [some (.ref 4), some (.int x1), none, none, some (.int (r5).toInt32), some (.int (i3 1))] (gj_u2 (gj_u2 (gj_u2 SI6 9 (gj_n x1) (r5).toInt32) 7 (gj_n x1) (((SI2 5 (gj_n r1)) - (SI2 5 (gj_n x1))) / (r5).toInt32)) 8 (gj_n x1) ((SI4 6 (gj_n r3)) - (SI4 6 (gj_n x1)))) SJ6 Q) ∧ (¬ (r5).toInt32 ≤ (i3 1) → GoVq omP4 E mt_28 112 [some (.ref 4), some (.int x1), none, none, some (.int (r5).toInt32), some (.int (i3 1))] (gj_u2 (gj_u2 (gj_u2 SI6 9 (gj_n x1) (r5).toInt32) 7 (gj_n x1) (((SI2 5 (gj_n r1)) - (SI2 5 (gj_n x1))) / (r5).toInt32)) 8 (gj_n x1) (((SI4 6 (gj_n r3)) - (SI4 6 (gj_n x1))) / (r5).toInt32)) SJ6 Q))))))))))) : GoVq omP4 E mt_28 7 [some (.ref 4), some (.int x1), none, none, none, none] SI SJ Q := by
  refine gj_goq gj_clT ok_28 [7, 24, 42, 58, 112] ?_
  show ((SI 4 7) ≤ x1 → gj_Goes E omP4 mt_28 171 [some (.ref 4), some (.int x1), none, none, none, none] [] SI SJ (QV Q)) ∧ (¬ (SI 4 7) ≤ x1 → gj_Do E omP4 (gj_mt 29) [(.ref 4), (.int x1)] SI SJ _)
  refine ⟨fun c1 => ?_, fun c1 => ?_⟩
  · refine gj_goq gj_clT ok_28 [7, 24, 42, 58, 112] ?_
    show QV Q none SI SJ
    exact ⟨rfl, (h.1 c1)⟩
  · refine gj_Do.mono (h.2 c1) (fun v_ SI2 SJ2 h_ => ?_)
    obtain ⟨r1, rfl, q2⟩ := h_
    show gj_Goes E omP4 mt_28 24 [some (.ref 4), some (.int x1), none, none, none, none] [(.int r1), (.ref 5)] SI2 SJ2 (QV Q)
    refine gj_goq gj_clT ok_28 [7, 24, 42, 58, 112] ?_
    show vp_in r1 8 ∧ (vp_in x1 8 ∧ (gj_Do E omP4 (gj_mt 29) [(.ref 4), (.int x1)] SI2 SJ2 _))
    have k3 := q2.1
    refine ⟨k3, ?_⟩
    have k4 := q2.2.1
    refine ⟨k4, ?_⟩
    refine gj_Do.mono q2.2.2 (fun v_ SI4 SJ4 h_ => ?_)
    obtain ⟨r3, rfl, q5⟩ := h_
    show gj_Goes E omP4 mt_28 42 [some (.ref 4), some (.int x1), some (.int ((SI2 5 (gj_n r1)) - (SI2 5 (gj_n x1)))), none, none, none] [(.int r3), (.ref 6)] SI4 SJ4 (QV Q)
    refine gj_goq gj_clT ok_28 [7, 24, 42, 58, 112] ?_
    show vp_in r3 8 ∧ (vp_in x1 8 ∧ (gj_Do E omP4 (gj_mt 154) [(.long ((SI2 5 (gj_n r1)) - (SI2 5 (gj_n x1))).toInt64), (.long ((SI4 6 (gj_n r3)) - (SI4 6 (gj_n x1))).toInt64)] SI4 SJ4 _))
    have k6 := q5.1
    refine ⟨k6, ?_⟩
    refine ⟨k4, ?_⟩
    refine gj_Do.mono q5.2 (fun v_ SI6 SJ6 h_ => ?_)
    obtain ⟨r5, rfl, q7⟩ := h_
    show gj_Goes E omP4 mt_28 58 [some (.ref 4), some (.int x1), some (.int ((SI2 5 (gj_n r1)) - (SI2 5 (gj_n x1)))), some (.int ((SI4 6 (gj_n r3)) - (SI4 6 (gj_n x1)))), none, none] [(.long r5)] SI6 SJ6 (QV Q)
    refine gj_goq gj_clT ok_28 [7, 24, 42, 58, 112] ?_
    show vp_in x1 8 ∧ (((r5).toInt32 ≤ (i3 1) → gj_Goes E omP4 mt_28 87 [some (.ref 4), some (.int x1), some (.int ((SI2 5 (gj_n r1)) - (SI2 5 (gj_n x1)))), some (.int ((SI4 6 (gj_n r3)) - (SI4 6 (gj_n x1)))), some (.int (r5).toInt32), none] [(.int x1), (.ref 7)] (gj_u2 SI6 9 (gj_n x1) (r5).toInt32) SJ6 (QV Q)) ∧ (¬ (r5).toInt32 ≤ (i3 1) → ¬ (r5).toInt32 = 0 ∧ (gj_Goes E omP4 mt_28 88 [some (.ref 4), some (.int x1), some (.int ((SI2 5 (gj_n r1)) - (SI2 5 (gj_n x1)))), some (.int ((SI4 6 (gj_n r3)) - (SI4 6 (gj_n x1)))), some (.int (r5).toInt32), none] [(.int (((SI2 5 (gj_n r1)) - (SI2 5 (gj_n x1))) / (r5).toInt32)), (.int x1), (.ref 7)] (gj_u2 SI6 9 (gj_n x1) (r5).toInt32) SJ6 (QV Q))))
    refine ⟨k4, ?_⟩
    refine ⟨fun c8 => ?_, fun c8 => ?_⟩
    · refine gj_goq gj_clT ok_28 [7, 24, 42, 58, 112] ?_
      show vp_in x1 8 ∧ (((r5).toInt32 ≤ (i3 1) → gj_Goes E omP4 mt_28 107 [some (.ref 4), some (.int x1), some (.int ((SI2 5 (gj_n r1)) - (SI2 5 (gj_n x1)))), some (.int ((SI4 6 (gj_n r3)) - (SI4 6 (gj_n x1)))), some (.int (r5).toInt32), none] [(.int x1), (.ref 8)] (gj_u2 (gj_u2 SI6 9 (gj_n x1) (r5).toInt32) 7 (gj_n x1) ((SI2 5 (gj_n r1)) - (SI2 5 (gj_n x1)))) SJ6 (QV Q)) ∧ (¬ (r5).toInt32 ≤ (i3 1) → ¬ (r5).toInt32 = 0 ∧ (gj_Goes E omP4 mt_28 108 [some (.ref 4), some (.int x1), some (.int ((SI2 5 (gj_n r1)) - (SI2 5 (gj_n x1)))), some (.int ((SI4 6 (gj_n r3)) - (SI4 6 (gj_n x1)))), some (.int (r5).toInt32), none] [(.int (((SI4 6 (gj_n r3)) - (SI4 6 (gj_n x1))) / (r5).toInt32)), (.int x1), (.ref 8)] (gj_u2 (gj_u2 SI6 9 (gj_n x1) (r5).toInt32) 7 (gj_n x1) ((SI2 5 (gj_n r1)) - (SI2 5 (gj_n x1)))) SJ6 (QV Q))))
      refine ⟨k4, ?_⟩
      refine ⟨fun c9 => ?_, fun c9 => ?_⟩
      · refine gj_goq gj_clT ok_28 [7, 24, 42, 58, 112] ?_
        show vp_in x1 8 ∧ (gj_Goes E omP4 mt_28 112 [some (.ref 4), some (.int x1), some (.int ((SI2 5 (gj_n r1)) - (SI2 5 (gj_n x1)))), some (.int ((SI4 6 (gj_n r3)) - (SI4 6 (gj_n x1)))), some (.int (r5).toInt32), some (.int (i3 1))] [] (gj_u2 (gj_u2 (gj_u2 SI6 9 (gj_n x1) (r5).toInt32) 7 (gj_n x1) ((SI2 5 (gj_n r1)) - (SI2 5 (gj_n x1)))) 8 (gj_n x1) ((SI4 6 (gj_n r3)) - (SI4 6 (gj_n x1)))) SJ6 (QV Q))
        refine ⟨k4, ?_⟩
        exact gj_fh ((q7.1 c8).1 c9) (And.intro (Or.inr rfl) (And.intro (Or.inr rfl) (And.intro (Or.inl rfl) (And.intro (Or.inl rfl) (And.intro (Or.inr rfl) (And.intro (Or.inr rfl) trivial))))))
      · have k10 := ((q7.1 c8).2 c9).1
        refine ⟨k10, ?_⟩
        refine gj_goq gj_clT ok_28 [7, 24, 42, 58, 112] ?_
        show vp_in x1 8 ∧ (gj_Goes E omP4 mt_28 112 [some (.ref 4), some (.int x1), some (.int ((SI2 5 (gj_n r1)) - (SI2 5 (gj_n x1)))), some (.int ((SI4 6 (gj_n r3)) - (SI4 6 (gj_n x1)))), some (.int (r5).toInt32), some (.int (i3 1))] [] (gj_u2 (gj_u2 (gj_u2 SI6 9 (gj_n x1) (r5).toInt32) 7 (gj_n x1) ((SI2 5 (gj_n r1)) - (SI2 5 (gj_n x1)))) 8 (gj_n x1) (((SI4 6 (gj_n r3)) - (SI4 6 (gj_n x1))) / (r5).toInt32)) SJ6 (QV Q))
        refine ⟨k4, ?_⟩
        exact gj_fh ((q7.1 c8).2 c9).2 (And.intro (Or.inr rfl) (And.intro (Or.inr rfl) (And.intro (Or.inl rfl) (And.intro (Or.inl rfl) (And.intro (Or.inr rfl) (And.intro (Or.inr rfl) trivial))))))
    · have k11 := (q7.2 c8).1
      refine ⟨k11, ?_⟩
      refine gj_goq gj_clT ok_28 [7, 24, 42, 58, 112] ?_
      show vp_in x1 8 ∧ (((r5).toInt32 ≤ (i3 1) → gj_Goes E omP4 mt_28 107 [some (.ref 4), some (.int x1), some (.int ((SI2 5 (gj_n r1)) - (SI2 5 (gj_n x1)))), some (.int ((SI4 6 (gj_n r3)) - (SI4 6 (gj_n x1)))), some (.int (r5).toInt32), none] [(.int x1), (.ref 8)] (gj_u2 (gj_u2 SI6 9 (gj_n x1) (r5).toInt32) 7 (gj_n x1) (((SI2 5 (gj_n r1)) - (SI2 5 (gj_n x1))) / (r5).toInt32)) SJ6 (QV Q)) ∧ (¬ (r5).toInt32 ≤ (i3 1) → ¬ (r5).toInt32 = 0 ∧ (gj_Goes E omP4 mt_28 108 [some (.ref 4), some (.int x1), some (.int ((SI2 5 (gj_n r1)) - (SI2 5 (gj_n x1)))), some (.int ((SI4 6 (gj_n r3)) - (SI4 6 (gj_n x1)))), some (.int (r5).toInt32), none] [(.int (((SI4 6 (gj_n r3)) - (SI4 6 (gj_n x1))) / (r5).toInt32)), (.int x1), (.ref 8)] (gj_u2 (gj_u2 SI6 9 (gj_n x1) (r5).toInt32) 7 (gj_n x1) (((SI2 5 (gj_n r1)) - (SI2 5 (gj_n x1))) / (r5).toInt32)) SJ6 (QV Q))))
      refine ⟨k4, ?_⟩
      refine ⟨fun c12 => ?_, fun c12 => ?_⟩
      · refine gj_goq gj_clT ok_28 [7, 24, 42, 58, 112] ?_
        show vp_in x1 8 ∧ (gj_Goes E omP4 mt_28 112 [some (.ref 4), some (.int x1), some (.int ((SI2 5 (gj_n r1)) - (SI2 5 (gj_n x1)))), some (.int ((SI4 6 (gj_n r3)) - (SI4 6 (gj_n x1)))), some (.int (r5).toInt32), some (.int (i3 1))] [] (gj_u2 (gj_u2 (gj_u2 SI6 9 (gj_n x1) (r5).toInt32) 7 (gj_n x1) (((SI2 5 (gj_n r1)) - (SI2 5 (gj_n x1))) / (r5).toInt32)) 8 (gj_n x1) ((SI4 6 (gj_n r3)) - (SI4 6 (gj_n x1)))) SJ6 (QV Q))
        refine ⟨k4, ?_⟩
        exact gj_fh ((q7.2 c8).2.1 c12) (And.intro (Or.inr rfl) (And.intro (Or.inr rfl) (And.intro (Or.inl rfl) (And.intro (Or.inl rfl) (And.intro (Or.inr rfl) (And.intro (Or.inr rfl) trivial))))))
      · refine ⟨k11, ?_⟩
        refine gj_goq gj_clT ok_28 [7, 24, 42, 58, 112] ?_
        show vp_in x1 8 ∧ (gj_Goes E omP4 mt_28 112 [some (.ref 4), some (.int x1), some (.int ((SI2 5 (gj_n r1)) - (SI2 5 (gj_n x1)))), some (.int ((SI4 6 (gj_n r3)) - (SI4 6 (gj_n x1)))), some (.int (r5).toInt32), some (.int (i3 1))] [] (gj_u2 (gj_u2 (gj_u2 SI6 9 (gj_n x1) (r5).toInt32) 7 (gj_n x1) (((SI2 5 (gj_n r1)) - (SI2 5 (gj_n x1))) / (r5).toInt32)) 8 (gj_n x1) (((SI4 6 (gj_n r3)) - (SI4 6 (gj_n x1))) / (r5).toInt32)) SJ6 (QV Q))
        refine ⟨k4, ?_⟩
        exact gj_fh ((q7.2 c8).2.2 c12) (And.intro (Or.inr rfl) (And.intro (Or.inr rfl) (And.intro (Or.inl rfl) (And.intro (Or.inl rfl) (And.intro (Or.inr rfl) (And.intro (Or.inr rfl) trivial))))))
set_option maxHeartbeats 4000000 in
set_option maxRecDepth 20000 in
theorem lp_28_112_4q {E : gj_E} {Q : gj_I → gj_J → Prop} (x1 : Int32) (x4 : Int32) (x5 : Int32) (SI : gj_I) (SJ : gj_J) (h : (x4 ≤ x5 → GoVq omP4 E mt_28 7 [some (.ref 4), some (.int (x1 + (i3 1))), none, none, none, none] SI SJ Q) ∧ (¬ x4 ≤ x5 → ((i3 72) ≤ (SI 4 8) → GoVq omP4 E mt_28 7 [some (.ref 4), some (.int (x1 + (i3 1))), none, none, none, none] SI SJ Q) ∧ (¬ (i3 72) ≤ (SI 4 8) → vp_in (SI 4 8) 72 ∧ (GoVq omP4 E mt_28 112 [some (.ref 4), some (.int x1), none, none, some (.int x4), some (.int (x5 + (i3 1)))] (gj_u2 (gj_u2 (gj_u2 SI 10 (gj_n (SI 4 8)) x1) 11 (gj_n (SI 4 8)) x5) 4 8 ((SI 4 8) + (i3 1))) SJ Q)))) : GoVq omP4 E mt_28 112 [some (.ref 4), some (.int x1), none, none, some (.int x4), some (.int x5)] SI SJ Q := by
  refine gj_goq gj_clT ok_28 [7, 24, 42, 58, 112] ?_
  show (x4 ≤ x5 → gj_Goes E omP4 mt_28 165 [some (.ref 4), some (.int x1), none, none, some (.int x4), some (.int x5)] [] SI SJ (QV Q)) ∧ (¬ x4 ≤ x5 → ((i3 72) ≤ (SI 4 8) → gj_Goes E omP4 mt_28 165 [some (.ref 4), some (.int x1), none, none, some (.int x4), some (.int x5)] [] SI SJ (QV Q)) ∧ (¬ (i3 72) ≤ (SI 4 8) → vp_in (SI 4 8) 72 ∧ (vp_in (SI 4 8) 72 ∧ (gj_Goes E omP4 mt_28 112 [some (.ref 4), some (.int x1), none, none, some (.int x4), some (.int (x5 + (i3 1)))] [] (gj_u2 (gj_u2 (gj_u2 SI 10 (gj_n (SI 4 8)) x1) 11 (gj_n (SI 4 8)) x5) 4 8 ((SI 4 8) + (i3 1))) SJ (QV Q)))))
  refine ⟨fun c1 => ?_, fun c1 => ?_⟩
  · refine gj_goq gj_clT ok_28 [7, 24, 42, 58, 112] ?_
    show gj_Goes E omP4 mt_28 7 [some (.ref 4), some (.int (x1 + (i3 1))), none, none, some (.int x4), some (.int x5)] [] SI SJ (QV Q)
    exact gj_fh (h.1 c1) (And.intro (Or.inr rfl) (And.intro (Or.inr rfl) (And.intro (Or.inl rfl) (And.intro (Or.inl rfl) (And.intro (Or.inl rfl) (And.intro (Or.inl rfl) trivial))))))
  · refine ⟨fun c2 => ?_, fun c2 => ?_⟩
    · refine gj_goq gj_clT ok_28 [7, 24, 42, 58, 112] ?_
      show gj_Goes E omP4 mt_28 7 [some (.ref 4), some (.int (x1 + (i3 1))), none, none, some (.int x4), some (.int x5)] [] SI SJ (QV Q)
      exact gj_fh ((h.2 c1).1 c2) (And.intro (Or.inr rfl) (And.intro (Or.inr rfl) (And.intro (Or.inl rfl) (And.intro (Or.inl rfl) (And.intro (Or.inl rfl) (And.intro (Or.inl rfl) trivial))))))
    · have k3 := ((h.2 c1).2 c2).1
      refine ⟨k3, ?_⟩
      refine ⟨k3, ?_⟩
      exact ((h.2 c1).2 c2).2
section DerQ4
variable {E : gj_E} {SI : gj_I} {SJ : gj_J} {F : Nat → Int}
theorem sp_next4q {Q : Int32 → gj_I → gj_J → Prop} {a : Int32} (h7 : SI 4 7 = i3 (F 0)) (hW : Wc F) (i : Nat) (hi : i < nC F) (ha : a = i3 i) (h : Q (i3 (nx F i : Nat)) SI SJ) : DoIq omP4 E 29 [(.ref 4), (.int a)] SI SJ Q := by
  subst ha
  obtain ⟨n1, n2, n3⟩ := hW.n
  refine st_29_4q _ SI SJ ?_
  rw [h7, n3, i3_add, i3_le (by omega) (by omega) (by omega) (by omega)]
  unfold nx at h
  refine ⟨fun c => ?_, fun c => ?_⟩
  · rw [show i + 1 = nC F by omega, Nat.mod_self] at h; exact h
  · rw [Nat.mod_eq_of_lt (by omega)] at h; exact h
theorem sp_derive4q {Q : gj_I → gj_J → Prop} (hX : PX4 F SI) (hW : Wp F) (h : ∀ SI', FI LD4 SI SI' → PD4 F SI' → Q SI' SJ) : DoVq omP4 E 28 [(.ref 4)] SI SJ Q := by
  obtain ⟨n1, n2, n3⟩ := hW.1.n
  obtain ⟨pe1, pe2⟩ := pn_e hW
  refine st_28_4q SI SJ ?_
  have plb : ∀ e, e ≤ nC F → 0 ≤ pl F e ∧ pl F e ≤ pn F := by
    intro e he
    have a := hW.mono e 0
    have b := hW.mono (nC F - e) e
    rw [show e + (nC F - e) = nC F by omega] at b
    rw [Nat.zero_add] at a
    have c : pl F 0 = 0 := rfl
    omega
  let HR : Nat → Int → gj_I → Prop := fun e p A => FI LD4 SI A ∧ A 4 8 = i3 p ∧ (∀ t, t < e → A 7 t = i3 (ax F t) ∧ A 8 t = i3 (ay F t) ∧ A 9 t = i3 (stp F t)) ∧ ∀ i : Nat, (i : Int) < p → A 10 i = i3 (pe F i) ∧ A 11 i = i3 (ps F i)
  refine up_lp (α := Unit) (P := fun e _ A B => B = SJ ∧ HR e (pl F e) A) (G := fun e _ A B => GoVq omP4 E mt_28 7 [some (.ref 4), some (.int (i3 (e : Nat))), none, none, none, none] A B Q) (nC F) ?_ ?_ 0 () _ SJ (by omega) ⟨rfl, FI.rf.u (by unfold LD4; omega), u2_s, fun t ht => by omega, fun i hi => by have c : pl F 0 = 0 := rfl; omega⟩
  · rintro _ A B ⟨rfl, g1, g2, g3, g4⟩
    have e7 : A 4 7 = i3 (F 0) := by rw [g1 4 7 (by unfold LD4; omega)]; exact hX.1
    refine lp_28_7_4q _ A B ⟨fun _ => h A g1 ⟨g3, by rw [g2, pe1], fun i hi => g4 i (by omega)⟩, fun c => ?_⟩
    rw [e7, n3, i3_le (by omega) (by omega) (by omega) (by omega)] at c; omega
  · rintro e _ A B he ⟨rfl, g1, g2, g3, g4⟩ ih
    have hXA : PX4 F A := hX.f g1 (by unfold LD4; exact ⟨by omega, fun k => by omega⟩)
    have e7 := hXA.1
    obtain ⟨y1, y2⟩ := hXA.2 e he
    obtain ⟨z0, z1, z2⟩ := hXA.xn hW.1 e
    have b1 := hW.1.b e; have b2 := hW.1.b (e + 1); have sb := hW.1.s e; have sp := hW.2.2 e
    have p1 := plb e (by omega); have p2 := plb (e + 1) (by omega)
    have eps : pl F (e + 1) = pl F e + stp F e - 1 := rfl
    have inner : ∀ A', HR (e + 1) (pl F e) A' → GoVq omP4 E mt_28 112 [some (.ref 4), some (.int (i3 (e : Nat))), none, none, some (.int (i3 (stp F e : Nat))), some (.int (i3 1))] A' B Q := by
      intro A' hH
      refine up_lp (α := Unit) (P := fun k _ A B' => B' = B ∧ 1 ≤ k ∧ HR (e + 1) (pl F e + k - 1) A) (G := fun k _ A B => GoVq omP4 E mt_28 112 [some (.ref 4), some (.int (i3 (e : Nat))), none, none, some (.int (i3 (stp F e : Nat))), some (.int (i3 (k : Nat)))] A B Q) (stp F e) ?_ ?_ 1 () A' B (by omega) ⟨rfl, by omega, by rw [show pl F e + ((1 : Nat) : Int) - 1 = pl F e by omega]; exact hH⟩
      · rintro _ A B ⟨rfl, k1, hH⟩
        refine lp_28_112_4q _ _ _ A B ⟨fun _ => ?_, fun c => ?_⟩
        · rw [i3_add]
          exact ih () A B ⟨rfl, by rw [eps]; exact hH⟩
        · rw [i3_le (by omega) (by omega) (by omega) (by omega)] at c; omega
      · rintro k _ A B hk ⟨rfl, k1, f1, f2, f3, f4⟩ ih2
        refine lp_28_112_4q _ _ _ A B ⟨fun c => ?_, fun c => ?_⟩
        · rw [i3_le (by omega) (by omega) (by omega) (by omega)] at c; omega
        · obtain ⟨m, hm⟩ : ∃ m : Nat, pl F e + k - 1 = m := ⟨(pl F e + k - 1).toNat, by omega⟩
          rw [f2, hm, i3_le (by omega) (by omega) (by omega) (by omega), i3_in (by omega) (by omega), i3_n (by omega) (by omega), show ((m : Nat) : Int).toNat = m by omega, i3_add, i3_add]
          refine ⟨fun q => by omega, fun _ => ⟨by omega, ih2 () _ B ⟨rfl, by omega, ?_, ?_, ?_, ?_⟩⟩⟩
          · exact ((f1.u (by unfold LD4; omega)).u (by unfold LD4; omega)).u (by unfold LD4; omega)
          · rw [u2_s, i3_add]; exact i3_c (by omega)
          · intro t ht
            rw [u2_n (by omega), u2_n (by omega), u2_n (by omega), u2_n (by omega), u2_n (by omega), u2_n (by omega), u2_n (by omega), u2_n (by omega), u2_n (by omega)]; exact f3 t ht
          · intro i hi
            by_cases q : i = m
            · subst q
              have q0 : 0 ≤ (i : Int) := by omega
              have q1 : (i : Int) < pl F (nC F) := by omega
              obtain ⟨w1, w2, w3⟩ := pe_s q0 q1
              have ee : pe F i = e := pl_un hW w2 w3 (by omega) (by omega)
              have es : ps F i = k := by unfold ps; rw [ee]; omega
              rw [u2_n (by omega), u2_n (by omega), u2_s, u2_n (by omega), u2_s, ee, es]; exact ⟨rfl, rfl⟩
            · rw [u2_n (by omega), u2_n (by omega), u2_n (by omega), u2_n (by omega), u2_n (by omega), u2_n (by omega)]; exact f4 i (by omega)
    refine lp_28_7_4q _ A B ⟨fun c => ?_, fun c => sp_next4q e7 hW.1 e he rfl ?_⟩
    · rw [e7, n3, i3_le (by omega) (by omega) (by omega) (by omega)] at c; omega
    · rw [i3_in (by omega) (by omega), i3_in (by omega) (by omega)]
      refine ⟨by omega, by omega, sp_next4q e7 hW.1 e he rfl ?_⟩
      rw [i3_in (by omega) (by omega), i3_n (by omega) (by omega), i3_n (by omega) (by omega), show ((e : Nat) : Int).toNat = e by omega, show ((nx F e : Nat) : Int).toNat = nx F e by omega, y1, y2, z1, z2, i3_sub, i3_sub, i3_64 (by omega) (by omega), i3_64 (by omega) (by omega)]
      refine ⟨by omega, sp_divisorq (by omega) (by omega) (by omega) (by omega) ?_⟩
      have eg : Int.gcd (cx F (e + 1) - cx F e) (cy F (e + 1) - cy F e) = stp F e := rfl
      rw [eg, i6_32 (by omega) (by omega), i3_le (by omega) (by omega) (by omega) (by omega), i3_eq0 (by omega) (by omega), i3_div (by omega) (by omega) (by omega) (by omega), i3_div (by omega) (by omega) (by omega) (by omega)]
      have fin : ∀ u v : Int, u = ax F e → v = ay F e → GoVq omP4 E mt_28 112 [some (.ref 4), some (.int (i3 (e : Nat))), none, none, some (.int (i3 (stp F e : Nat))), some (.int (i3 1))] (gj_u2 (gj_u2 (gj_u2 A 9 e (i3 (stp F e : Nat))) 7 e (i3 u)) 8 e (i3 v)) B Q := by
        intro u v hu hv
        subst hu; subst hv
        refine inner _ ⟨((g1.u (by unfold LD4; omega)).u (by unfold LD4; omega)).u (by unfold LD4; omega), by rw [u2_n (by omega), u2_n (by omega), u2_n (by omega)]; exact g2, fun t ht => ?_, fun i hi => ?_⟩
        · by_cases q : t = e
          · subst q
            rw [u2_n (by omega), u2_s, u2_s, u2_n (by omega), u2_n (by omega), u2_s]; exact ⟨rfl, rfl, rfl⟩
          · rw [u2_n (by omega), u2_n (by omega), u2_n (by omega), u2_n (by omega), u2_n (by omega), u2_n (by omega), u2_n (by omega), u2_n (by omega), u2_n (by omega)]; exact g3 t (by omega)
        · rw [u2_n (by omega), u2_n (by omega), u2_n (by omega), u2_n (by omega), u2_n (by omega), u2_n (by omega)]; exact g4 i hi
      have e1 : (stp F e : Int) ≤ 1 → cx F (e + 1) - cx F e = ax F e ∧ cy F (e + 1) - cy F e = ay F e := by
        intro q
        have q1 : stp F e = 1 := by omega
        unfold ax ay; rw [q1]
        exact ⟨(Int.tdiv_one _).symm, (Int.tdiv_one _).symm⟩
      refine ⟨fun q => ⟨fun _ => fin _ _ (e1 q).1 (e1 q).2, fun q2 => absurd q q2⟩, fun q => ⟨by omega, fun q2 => absurd q2 q, fun _ => fin _ _ rfl rfl⟩⟩
end DerQ4
abbrev omP17 : gj_Om := (25, gj_Rq 22)
set_option maxHeartbeats 4000000 in
set_option maxRecDepth 20000 in
theorem st_29_17q {E : gj_E} {Q : Int32 → gj_I → gj_J → Prop} (a1 : Int32) (SI : gj_I) (SJ : gj_J) (h : ((SI 17 7) ≤ (a1 + (i3 1)) → Q (i3 0) SI SJ) ∧ (¬ (SI 17 7) ≤ (a1 + (i3 1)) → Q (a1 + (i3 1)) SI SJ)) : DoIq omP17 E 29 [(.ref 17), (.int a1)] SI SJ Q := by
  refine gj_start (M := mt_29) ok_29 (Nat.le_of_ble_eq_true rfl) ?_
  refine gj_goq gj_clT ok_29 [] ?_
  show ((SI 17 7) ≤ (a1 + (i3 1)) → gj_Goes E omP17 mt_29 16 [some (.ref 17), some (.int a1)] [] SI SJ (QI Q)) ∧ (¬ (SI 17 7) ≤ (a1 + (i3 1)) → gj_Goes E omP17 mt_29 17 [some (.ref 17), some (.int a1)] [(.int (a1 + (i3 1)))] SI SJ (QI Q))
  refine ⟨fun c1 => ?_, fun c1 => ?_⟩
  · refine gj_goq gj_clT ok_29 [] ?_
    show QI Q (some (.int (i3 0))) SI SJ
    exact ⟨_, rfl, (h.1 c1)⟩
  · refine gj_goq gj_clT ok_29 [] ?_
    show QI Q (some (.int (a1 + (i3 1)))) SI SJ
    exact ⟨_, rfl, (h.2 c1)⟩
set_option maxHeartbeats 4000000 in
set_option maxRecDepth 20000 in
theorem st_28_17q {E : gj_E} {Q : gj_I → gj_J → Prop} (SI : gj_I) (SJ : gj_J) (h : GoVq omP17 E mt_28 7 [some (.ref 17), some (.int (i3 0)), none, none, none, none] (gj_u2 SI 17 8 (i3 0)) SJ Q) : DoVq omP17 E 28 [(.ref 17)] SI SJ Q := by
  refine gj_start (M := mt_28) ok_28 (Nat.le_of_ble_eq_true rfl) ?_
  refine gj_goq gj_clT ok_28 [7, 24, 42, 58, 112] ?_
  show gj_Goes E omP17 mt_28 7 [some (.ref 17), some (.int (i3 0)), none, none, none, none] [] (gj_u2 SI 17 8 (i3 0)) SJ (QV Q)
  exact h
set_option maxHeartbeats 4000000 in
set_option maxRecDepth 20000 in
theorem lp_28_7_17q {E : gj_E} {Q : gj_I → gj_J → Prop} (x1 : Int32) (SI : gj_I) (SJ : gj_J) (h : ((SI 17 7) ≤ x1 → Q SI SJ) ∧ (¬ (SI 17 7) ≤ x1 → DoIq omP17 E 29 [(.ref 17), (.int x1)] SI SJ (fun r1 SI2 SJ2 => vp_in r1 8 ∧ (vp_in x1 8 ∧ (DoIq omP17 E 29 [(.ref 17), (.int x1)] SI2 SJ2 (fun r3 SI4 SJ4 => vp_in r3 8 ∧ (DoLq omP17 E 154 [(.long ((SI2 18 (gj_n r1)) - (SI2 18 (gj_n x1))).toInt64), (.long ((SI4 19 (gj_n r3)) - (SI4 19 (gj_n x1))).toInt64)] SI4 SJ4 (fun r5 SI6 SJ6 => ((r5).toInt32 ≤ (i3 1) → ((r5).toInt32 ≤ (i3 1) → GoVq omP17 E mt_28 112 [some (.ref 17), some (.int x1), none, none, some (.int (r5).toInt32), some (.int (i3 1))] (gj_u2 (gj_u2 (gj_u2 SI6 22 (gj_n x1) (r5).toInt32) 20 (gj_n x1) ((SI2 18 (gj_n r1)) - (SI2 18 (gj_n x1)))) 21 (gj_n x1) ((SI4 19 (gj_n r3)) - (SI4 19 (gj_n x1)))) SJ6 Q) ∧ (¬ (r5).toInt32 ≤ (i3 1) → ¬ (r5).toInt32 = 0 ∧ (GoVq omP17 E mt_28 112 [some (.ref 17), some (.int x1), none, none, some (.int (r5).toInt32), some (.int (i3 1))] (gj_u2 (gj_u2 (gj_u2 SI6 22 (gj_n x1) (r5).toInt32) 20 (gj_n x1) ((SI2 18 (gj_n r1)) - (SI2 18 (gj_n x1)))) 21 (gj_n x1) (((SI4 19 (gj_n r3)) - (SI4 19 (gj_n x1))) / (r5).toInt32)) SJ6 Q))) ∧ (¬ (r5).toInt32 ≤ (i3 1) → ¬ (r5).toInt32 = 0 ∧ (((r5).toInt32 ≤ (i3 1) → GoVq omP17 E mt_28 112 [some (.ref 17), some (.int x1), none, none, some (.int (r5).toInt32), some (.int (i3 1))] (gj_u2 (gj_u2 (gj_u2 SI6 22 (gj_n x1) (r5).toInt32) 20 (gj_n x1) (((SI2 18 (gj_n r1)) - (SI2 18 (gj_n x1))) / (r5).toInt32)) 21 (gj_n x1) ((SI4 19 (gj_n r3)) - (SI4 19 (gj_n x1)))) SJ6 Q) ∧ (¬ (r5).toInt32 ≤ (i3 1) → GoVq omP17 E mt_28 112 [some (.ref 17), some (.int x1), none, none, some (.int (r5).toInt32), some (.int (i3 1))] (gj_u2 (gj_u2 (gj_u2 SI6 22 (gj_n x1) (r5).toInt32) 20 (gj_n x1) (((SI2 18 (gj_n r1)) - (SI2 18 (gj_n x1))) / (r5).toInt32)) 21 (gj_n x1) (((SI4 19 (gj_n r3)) - (SI4 19 (gj_n x1))) / (r5).toInt32)) SJ6 Q))))))))))) : GoVq omP17 E mt_28 7 [some (.ref 17), some (.int x1), none, none, none, none] SI SJ Q := by
  refine gj_goq gj_clT ok_28 [7, 24, 42, 58, 112] ?_
  show ((SI 17 7) ≤ x1 → gj_Goes E omP17 mt_28 171 [some (.ref 17), some (.int x1), none, none, none, none] [] SI SJ (QV Q)) ∧ (¬ (SI 17 7) ≤ x1 → gj_Do E omP17 (gj_mt 29) [(.ref 17), (.int x1)] SI SJ _)
  refine ⟨fun c1 => ?_, fun c1 => ?_⟩
  · refine gj_goq gj_clT ok_28 [7, 24, 42, 58, 112] ?_
    show QV Q none SI SJ
    exact ⟨rfl, (h.1 c1)⟩
  · refine gj_Do.mono (h.2 c1) (fun v_ SI2 SJ2 h_ => ?_)
    obtain ⟨r1, rfl, q2⟩ := h_
    show gj_Goes E omP17 mt_28 24 [some (.ref 17), some (.int x1), none, none, none, none] [(.int r1), (.ref 18)] SI2 SJ2 (QV Q)
    refine gj_goq gj_clT ok_28 [7, 24, 42, 58, 112] ?_
    show vp_in r1 8 ∧ (vp_in x1 8 ∧ (gj_Do E omP17 (gj_mt 29) [(.ref 17), (.int x1)] SI2 SJ2 _))
    have k3 := q2.1
    refine ⟨k3, ?_⟩
    have k4 := q2.2.1
    refine ⟨k4, ?_⟩
    refine gj_Do.mono q2.2.2 (fun v_ SI4 SJ4 h_ => ?_)
    obtain ⟨r3, rfl, q5⟩ := h_
    show gj_Goes E omP17 mt_28 42 [some (.ref 17), some (.int x1), some (.int ((SI2 18 (gj_n r1)) - (SI2 18 (gj_n x1)))), none, none, none] [(.int r3), (.ref 19)] SI4 SJ4 (QV Q)
    refine gj_goq gj_clT ok_28 [7, 24, 42, 58, 112] ?_
    show vp_in r3 8 ∧ (vp_in x1 8 ∧ (gj_Do E omP17 (gj_mt 154) [(.long ((SI2 18 (gj_n r1)) - (SI2 18 (gj_n x1))).toInt64), (.long ((SI4 19 (gj_n r3)) - (SI4 19 (gj_n x1))).toInt64)] SI4 SJ4 _))
    have k6 := q5.1
    refine ⟨k6, ?_⟩
    refine ⟨k4, ?_⟩
    refine gj_Do.mono q5.2 (fun v_ SI6 SJ6 h_ => ?_)
    obtain ⟨r5, rfl, q7⟩ := h_
    show gj_Goes E omP17 mt_28 58 [some (.ref 17), some (.int x1), some (.int ((SI2 18 (gj_n r1)) - (SI2 18 (gj_n x1)))), some (.int ((SI4 19 (gj_n r3)) - (SI4 19 (gj_n x1)))), none, none] [(.long r5)] SI6 SJ6 (QV Q)
    refine gj_goq gj_clT ok_28 [7, 24, 42, 58, 112] ?_
    show vp_in x1 8 ∧ (((r5).toInt32 ≤ (i3 1) → gj_Goes E omP17 mt_28 87 [some (.ref 17), some (.int x1), some (.int ((SI2 18 (gj_n r1)) - (SI2 18 (gj_n x1)))), some (.int ((SI4 19 (gj_n r3)) - (SI4 19 (gj_n x1)))), some (.int (r5).toInt32), none] [(.int x1), (.ref 20)] (gj_u2 SI6 22 (gj_n x1) (r5).toInt32) SJ6 (QV Q)) ∧ (¬ (r5).toInt32 ≤ (i3 1) → ¬ (r5).toInt32 = 0 ∧ (gj_Goes E omP17 mt_28 88 [some (.ref 17), some (.int x1), some (.int ((SI2 18 (gj_n r1)) - (SI2 18 (gj_n x1)))), some (.int ((SI4 19 (gj_n r3)) - (SI4 19 (gj_n x1)))), some (.int (r5).toInt32), none] [(.int (((SI2 18 (gj_n r1)) - (SI2 18 (gj_n x1))) / (r5).toInt32)), (.int x1), (.ref 20)] (gj_u2 SI6 22 (gj_n x1) (r5).toInt32) SJ6 (QV Q))))
    refine ⟨k4, ?_⟩
    refine ⟨fun c8 => ?_, fun c8 => ?_⟩
    · refine gj_goq gj_clT ok_28 [7, 24, 42, 58, 112] ?_
      show vp_in x1 8 ∧ (((r5).toInt32 ≤ (i3 1) → gj_Goes E omP17 mt_28 107 [some (.ref 17), some (.int x1), some (.int ((SI2 18 (gj_n r1)) - (SI2 18 (gj_n x1)))), some (.int ((SI4 19 (gj_n r3)) - (SI4 19 (gj_n x1)))), some (.int (r5).toInt32), none] [(.int x1), (.ref 21)] (gj_u2 (gj_u2 SI6 22 (gj_n x1) (r5).toInt32) 20 (gj_n x1) ((SI2 18 (gj_n r1)) - (SI2 18 (gj_n x1)))) SJ6 (QV Q)) ∧ (¬ (r5).toInt32 ≤ (i3 1) → ¬ (r5).toInt32 = 0 ∧ (gj_Goes E omP17 mt_28 108 [some (.ref 17), some (.int x1), some (.int ((SI2 18 (gj_n r1)) - (SI2 18 (gj_n x1)))), some (.int ((SI4 19 (gj_n r3)) - (SI4 19 (gj_n x1)))), some (.int (r5).toInt32), none] [(.int (((SI4 19 (gj_n r3)) - (SI4 19 (gj_n x1))) / (r5).toInt32)), (.int x1), (.ref 21)] (gj_u2 (gj_u2 SI6 22 (gj_n x1) (r5).toInt32) 20 (gj_n x1) ((SI2 18 (gj_n r1)) - (SI2 18 (gj_n x1)))) SJ6 (QV Q))))
      refine ⟨k4, ?_⟩
      refine ⟨fun c9 => ?_, fun c9 => ?_⟩
      · refine gj_goq gj_clT ok_28 [7, 24, 42, 58, 112] ?_
        show vp_in x1 8 ∧ (gj_Goes E omP17 mt_28 112 [some (.ref 17), some (.int x1), some (.int ((SI2 18 (gj_n r1)) - (SI2 18 (gj_n x1)))), some (.int ((SI4 19 (gj_n r3)) - (SI4 19 (gj_n x1)))), some (.int (r5).toInt32), some (.int (i3 1))] [] (gj_u2 (gj_u2 (gj_u2 SI6 22 (gj_n x1) (r5).toInt32) 20 (gj_n x1) ((SI2 18 (gj_n r1)) - (SI2 18 (gj_n x1)))) 21 (gj_n x1) ((SI4 19 (gj_n r3)) - (SI4 19 (gj_n x1)))) SJ6 (QV Q))
        refine ⟨k4, ?_⟩
        exact gj_fh ((q7.1 c8).1 c9) (And.intro (Or.inr rfl) (And.intro (Or.inr rfl) (And.intro (Or.inl rfl) (And.intro (Or.inl rfl) (And.intro (Or.inr rfl) (And.intro (Or.inr rfl) trivial))))))
      · have k10 := ((q7.1 c8).2 c9).1
        refine ⟨k10, ?_⟩
        refine gj_goq gj_clT ok_28 [7, 24, 42, 58, 112] ?_
        show vp_in x1 8 ∧ (gj_Goes E omP17 mt_28 112 [some (.ref 17), some (.int x1), some (.int ((SI2 18 (gj_n r1)) - (SI2 18 (gj_n x1)))), some (.int ((SI4 19 (gj_n r3)) - (SI4 19 (gj_n x1)))), some (.int (r5).toInt32), some (.int (i3 1))] [] (gj_u2 (gj_u2 (gj_u2 SI6 22 (gj_n x1) (r5).toInt32) 20 (gj_n x1) ((SI2 18 (gj_n r1)) - (SI2 18 (gj_n x1)))) 21 (gj_n x1) (((SI4 19 (gj_n r3)) - (SI4 19 (gj_n x1))) / (r5).toInt32)) SJ6 (QV Q))
        refine ⟨k4, ?_⟩
        exact gj_fh ((q7.1 c8).2 c9).2 (And.intro (Or.inr rfl) (And.intro (Or.inr rfl) (And.intro (Or.inl rfl) (And.intro (Or.inl rfl) (And.intro (Or.inr rfl) (And.intro (Or.inr rfl) trivial))))))
    · have k11 := (q7.2 c8).1
      refine ⟨k11, ?_⟩
      refine gj_goq gj_clT ok_28 [7, 24, 42, 58, 112] ?_
      show vp_in x1 8 ∧ (((r5).toInt32 ≤ (i3 1) → gj_Goes E omP17 mt_28 107 [some (.ref 17), some (.int x1), some (.int ((SI2 18 (gj_n r1)) - (SI2 18 (gj_n x1)))), some (.int ((SI4 19 (gj_n r3)) - (SI4 19 (gj_n x1)))), some (.int (r5).toInt32), none] [(.int x1), (.ref 21)] (gj_u2 (gj_u2 SI6 22 (gj_n x1) (r5).toInt32) 20 (gj_n x1) (((SI2 18 (gj_n r1)) - (SI2 18 (gj_n x1))) / (r5).toInt32)) SJ6 (QV Q)) ∧ (¬ (r5).toInt32 ≤ (i3 1) → ¬ (r5).toInt32 = 0 ∧ (gj_Goes E omP17 mt_28 108 [some (.ref 17), some (.int x1), some (.int ((SI2 18 (gj_n r1)) - (SI2 18 (gj_n x1)))), some (.int ((SI4 19 (gj_n r3)) - (SI4 19 (gj_n x1)))), some (.int (r5).toInt32), none] [(.int (((SI4 19 (gj_n r3)) - (SI4 19 (gj_n x1))) / (r5).toInt32)), (.int x1), (.ref 21)] (gj_u2 (gj_u2 SI6 22 (gj_n x1) (r5).toInt32) 20 (gj_n x1) (((SI2 18 (gj_n r1)) - (SI2 18 (gj_n x1))) / (r5).toInt32)) SJ6 (QV Q))))
      refine ⟨k4, ?_⟩
      refine ⟨fun c12 => ?_, fun c12 => ?_⟩
      · refine gj_goq gj_clT ok_28 [7, 24, 42, 58, 112] ?_
        show vp_in x1 8 ∧ (gj_Goes E omP17 mt_28 112 [some (.ref 17), some (.int x1), some (.int ((SI2 18 (gj_n r1)) - (SI2 18 (gj_n x1)))), some (.int ((SI4 19 (gj_n r3)) - (SI4 19 (gj_n x1)))), some (.int (r5).toInt32), some (.int (i3 1))] [] (gj_u2 (gj_u2 (gj_u2 SI6 22 (gj_n x1) (r5).toInt32) 20 (gj_n x1) (((SI2 18 (gj_n r1)) - (SI2 18 (gj_n x1))) / (r5).toInt32)) 21 (gj_n x1) ((SI4 19 (gj_n r3)) - (SI4 19 (gj_n x1)))) SJ6 (QV Q))
        refine ⟨k4, ?_⟩
        exact gj_fh ((q7.2 c8).2.1 c12) (And.intro (Or.inr rfl) (And.intro (Or.inr rfl) (And.intro (Or.inl rfl) (And.intro (Or.inl rfl) (And.intro (Or.inr rfl) (And.intro (Or.inr rfl) trivial))))))
      · refine ⟨k11, ?_⟩
        refine gj_goq gj_clT ok_28 [7, 24, 42, 58, 112] ?_
        show vp_in x1 8 ∧ (gj_Goes E omP17 mt_28 112 [some (.ref 17), some (.int x1), some (.int ((SI2 18 (gj_n r1)) - (SI2 18 (gj_n x1)))), some (.int ((SI4 19 (gj_n r3)) - (SI4 19 (gj_n x1)))), some (.int (r5).toInt32), some (.int (i3 1))] [] (gj_u2 (gj_u2 (gj_u2 SI6 22 (gj_n x1) (r5).toInt32) 20 (gj_n x1) (((SI2 18 (gj_n r1)) - (SI2 18 (gj_n x1))) / (r5).toInt32)) 21 (gj_n x1) (((SI4 19 (gj_n r3)) - (SI4 19 (gj_n x1))) / (r5).toInt32)) SJ6 (QV Q))
        refine ⟨k4, ?_⟩
        exact gj_fh ((q7.2 c8).2.2 c12) (And.intro (Or.inr rfl) (And.intro (Or.inr rfl) (And.intro (Or.inl rfl) (And.intro (Or.inl rfl) (And.intro (Or.inr rfl) (And.intro (Or.inr rfl) trivial))))))
set_option maxHeartbeats 4000000 in
set_option maxRecDepth 20000 in
theorem lp_28_112_17q {E : gj_E} {Q : gj_I → gj_J → Prop} (x1 : Int32) (x4 : Int32) (x5 : Int32) (SI : gj_I) (SJ : gj_J) (h : (x4 ≤ x5 → GoVq omP17 E mt_28 7 [some (.ref 17), some (.int (x1 + (i3 1))), none, none, none, none] SI SJ Q) ∧ (¬ x4 ≤ x5 → ((i3 72) ≤ (SI 17 8) → GoVq omP17 E mt_28 7 [some (.ref 17), some (.int (x1 + (i3 1))), none, none, none, none] SI SJ Q) ∧ (¬ (i3 72) ≤ (SI 17 8) → vp_in (SI 17 8) 72 ∧ (GoVq omP17 E mt_28 112 [some (.ref 17), some (.int x1), none, none, some (.int x4), some (.int (x5 + (i3 1)))] (gj_u2 (gj_u2 (gj_u2 SI 23 (gj_n (SI 17 8)) x1) 24 (gj_n (SI 17 8)) x5) 17 8 ((SI 17 8) + (i3 1))) SJ Q)))) : GoVq omP17 E mt_28 112 [some (.ref 17), some (.int x1), none, none, some (.int x4), some (.int x5)] SI SJ Q := by
  refine gj_goq gj_clT ok_28 [7, 24, 42, 58, 112] ?_
  show (x4 ≤ x5 → gj_Goes E omP17 mt_28 165 [some (.ref 17), some (.int x1), none, none, some (.int x4), some (.int x5)] [] SI SJ (QV Q)) ∧ (¬ x4 ≤ x5 → ((i3 72) ≤ (SI 17 8) → gj_Goes E omP17 mt_28 165 [some (.ref 17), some (.int x1), none, none, some (.int x4), some (.int x5)] [] SI SJ (QV Q)) ∧ (¬ (i3 72) ≤ (SI 17 8) → vp_in (SI 17 8) 72 ∧ (vp_in (SI 17 8) 72 ∧ (gj_Goes E omP17 mt_28 112 [some (.ref 17), some (.int x1), none, none, some (.int x4), some (.int (x5 + (i3 1)))] [] (gj_u2 (gj_u2 (gj_u2 SI 23 (gj_n (SI 17 8)) x1) 24 (gj_n (SI 17 8)) x5) 17 8 ((SI 17 8) + (i3 1))) SJ (QV Q)))))
  refine ⟨fun c1 => ?_, fun c1 => ?_⟩
  · refine gj_goq gj_clT ok_28 [7, 24, 42, 58, 112] ?_
    show gj_Goes E omP17 mt_28 7 [some (.ref 17), some (.int (x1 + (i3 1))), none, none, some (.int x4), some (.int x5)] [] SI SJ (QV Q)
    exact gj_fh (h.1 c1) (And.intro (Or.inr rfl) (And.intro (Or.inr rfl) (And.intro (Or.inl rfl) (And.intro (Or.inl rfl) (And.intro (Or.inl rfl) (And.intro (Or.inl rfl) trivial))))))
  · refine ⟨fun c2 => ?_, fun c2 => ?_⟩
    · refine gj_goq gj_clT ok_28 [7, 24, 42, 58, 112] ?_
      show gj_Goes E omP17 mt_28 7 [some (.ref 17), some (.int (x1 + (i3 1))), none, none, some (.int x4), some (.int x5)] [] SI SJ (QV Q)
      exact gj_fh ((h.2 c1).1 c2) (And.intro (Or.inr rfl) (And.intro (Or.inr rfl) (And.intro (Or.inl rfl) (And.intro (Or.inl rfl) (And.intro (Or.inl rfl) (And.intro (Or.inl rfl) trivial))))))
    · have k3 := ((h.2 c1).2 c2).1
      refine ⟨k3, ?_⟩
      refine ⟨k3, ?_⟩
      exact ((h.2 c1).2 c2).2
section DerQ17
variable {E : gj_E} {SI : gj_I} {SJ : gj_J} {F : Nat → Int}
theorem sp_next17q {Q : Int32 → gj_I → gj_J → Prop} {a : Int32} (h7 : SI 17 7 = i3 (F 0)) (hW : Wc F) (i : Nat) (hi : i < nC F) (ha : a = i3 i) (h : Q (i3 (nx F i : Nat)) SI SJ) : DoIq omP17 E 29 [(.ref 17), (.int a)] SI SJ Q := by
  subst ha
  obtain ⟨n1, n2, n3⟩ := hW.n
  refine st_29_17q _ SI SJ ?_
  rw [h7, n3, i3_add, i3_le (by omega) (by omega) (by omega) (by omega)]
  unfold nx at h
  refine ⟨fun c => ?_, fun c => ?_⟩
  · rw [show i + 1 = nC F by omega, Nat.mod_self] at h; exact h
  · rw [Nat.mod_eq_of_lt (by omega)] at h; exact h
theorem sp_derive17q {Q : gj_I → gj_J → Prop} (hX : PX17 F SI) (hW : Wp F) (h : ∀ SI', FI LD17 SI SI' → PD17 F SI' → Q SI' SJ) : DoVq omP17 E 28 [(.ref 17)] SI SJ Q := by
  obtain ⟨n1, n2, n3⟩ := hW.1.n
  obtain ⟨pe1, pe2⟩ := pn_e hW
  refine st_28_17q SI SJ ?_
  have plb : ∀ e, e ≤ nC F → 0 ≤ pl F e ∧ pl F e ≤ pn F := by
    intro e he
    have a := hW.mono e 0
    have b := hW.mono (nC F - e) e
    rw [show e + (nC F - e) = nC F by omega] at b
    rw [Nat.zero_add] at a
    have c : pl F 0 = 0 := rfl
    omega
  let HR : Nat → Int → gj_I → Prop := fun e p A => FI LD17 SI A ∧ A 17 8 = i3 p ∧ (∀ t, t < e → A 20 t = i3 (ax F t) ∧ A 21 t = i3 (ay F t) ∧ A 22 t = i3 (stp F t)) ∧ ∀ i : Nat, (i : Int) < p → A 23 i = i3 (pe F i) ∧ A 24 i = i3 (ps F i)
  refine up_lp (α := Unit) (P := fun e _ A B => B = SJ ∧ HR e (pl F e) A) (G := fun e _ A B => GoVq omP17 E mt_28 7 [some (.ref 17), some (.int (i3 (e : Nat))), none, none, none, none] A B Q) (nC F) ?_ ?_ 0 () _ SJ (by omega) ⟨rfl, FI.rf.u (by unfold LD17; omega), u2_s, fun t ht => by omega, fun i hi => by have c : pl F 0 = 0 := rfl; omega⟩
  · rintro _ A B ⟨rfl, g1, g2, g3, g4⟩
    have e7 : A 17 7 = i3 (F 0) := by rw [g1 17 7 (by unfold LD17; omega)]; exact hX.1
    refine lp_28_7_17q _ A B ⟨fun _ => h A g1 ⟨g3, by rw [g2, pe1], fun i hi => g4 i (by omega)⟩, fun c => ?_⟩
    rw [e7, n3, i3_le (by omega) (by omega) (by omega) (by omega)] at c; omega
  · rintro e _ A B he ⟨rfl, g1, g2, g3, g4⟩ ih
    have hXA : PX17 F A := hX.f g1 (by unfold LD17; exact ⟨by omega, fun k => by omega⟩)
    have e7 := hXA.1
    obtain ⟨y1, y2⟩ := hXA.2 e he
    obtain ⟨z0, z1, z2⟩ := hXA.xn hW.1 e
    have b1 := hW.1.b e; have b2 := hW.1.b (e + 1); have sb := hW.1.s e; have sp := hW.2.2 e
    have p1 := plb e (by omega); have p2 := plb (e + 1) (by omega)
    have eps : pl F (e + 1) = pl F e + stp F e - 1 := rfl
    have inner : ∀ A', HR (e + 1) (pl F e) A' → GoVq omP17 E mt_28 112 [some (.ref 17), some (.int (i3 (e : Nat))), none, none, some (.int (i3 (stp F e : Nat))), some (.int (i3 1))] A' B Q := by
      intro A' hH
      refine up_lp (α := Unit) (P := fun k _ A B' => B' = B ∧ 1 ≤ k ∧ HR (e + 1) (pl F e + k - 1) A) (G := fun k _ A B => GoVq omP17 E mt_28 112 [some (.ref 17), some (.int (i3 (e : Nat))), none, none, some (.int (i3 (stp F e : Nat))), some (.int (i3 (k : Nat)))] A B Q) (stp F e) ?_ ?_ 1 () A' B (by omega) ⟨rfl, by omega, by rw [show pl F e + ((1 : Nat) : Int) - 1 = pl F e by omega]; exact hH⟩
      · rintro _ A B ⟨rfl, k1, hH⟩
        refine lp_28_112_17q _ _ _ A B ⟨fun _ => ?_, fun c => ?_⟩
        · rw [i3_add]
          exact ih () A B ⟨rfl, by rw [eps]; exact hH⟩
        · rw [i3_le (by omega) (by omega) (by omega) (by omega)] at c; omega
      · rintro k _ A B hk ⟨rfl, k1, f1, f2, f3, f4⟩ ih2
        refine lp_28_112_17q _ _ _ A B ⟨fun c => ?_, fun c => ?_⟩
        · rw [i3_le (by omega) (by omega) (by omega) (by omega)] at c; omega
        · obtain ⟨m, hm⟩ : ∃ m : Nat, pl F e + k - 1 = m := ⟨(pl F e + k - 1).toNat, by omega⟩
          rw [f2, hm, i3_le (by omega) (by omega) (by omega) (by omega), i3_in (by omega) (by omega), i3_n (by omega) (by omega), show ((m : Nat) : Int).toNat = m by omega, i3_add, i3_add]
          refine ⟨fun q => by omega, fun _ => ⟨by omega, ih2 () _ B ⟨rfl, by omega, ?_, ?_, ?_, ?_⟩⟩⟩
          · exact ((f1.u (by unfold LD17; omega)).u (by unfold LD17; omega)).u (by unfold LD17; omega)
          · rw [u2_s, i3_add]; exact i3_c (by omega)
          · intro t ht
            rw [u2_n (by omega), u2_n (by omega), u2_n (by omega), u2_n (by omega), u2_n (by omega), u2_n (by omega), u2_n (by omega), u2_n (by omega), u2_n (by omega)]; exact f3 t ht
          · intro i hi
            by_cases q : i = m
            · subst q
              have q0 : 0 ≤ (i : Int) := by omega
              have q1 : (i : Int) < pl F (nC F) := by omega
              obtain ⟨w1, w2, w3⟩ := pe_s q0 q1
              have ee : pe F i = e := pl_un hW w2 w3 (by omega) (by omega)
              have es : ps F i = k := by unfold ps; rw [ee]; omega
              rw [u2_n (by omega), u2_n (by omega), u2_s, u2_n (by omega), u2_s, ee, es]; exact ⟨rfl, rfl⟩
            · rw [u2_n (by omega), u2_n (by omega), u2_n (by omega), u2_n (by omega), u2_n (by omega), u2_n (by omega)]; exact f4 i (by omega)
    refine lp_28_7_17q _ A B ⟨fun c => ?_, fun c => sp_next17q e7 hW.1 e he rfl ?_⟩
    · rw [e7, n3, i3_le (by omega) (by omega) (by omega) (by omega)] at c; omega
    · rw [i3_in (by omega) (by omega), i3_in (by omega) (by omega)]
      refine ⟨by omega, by omega, sp_next17q e7 hW.1 e he rfl ?_⟩
      rw [i3_in (by omega) (by omega), i3_n (by omega) (by omega), i3_n (by omega) (by omega), show ((e : Nat) : Int).toNat = e by omega, show ((nx F e : Nat) : Int).toNat = nx F e by omega, y1, y2, z1, z2, i3_sub, i3_sub, i3_64 (by omega) (by omega), i3_64 (by omega) (by omega)]
      refine ⟨by omega, sp_divisorq (by omega) (by omega) (by omega) (by omega) ?_⟩
      have eg : Int.gcd (cx F (e + 1) - cx F e) (cy F (e + 1) - cy F e) = stp F e := rfl
      rw [eg, i6_32 (by omega) (by omega), i3_le (by omega) (by omega) (by omega) (by omega), i3_eq0 (by omega) (by omega), i3_div (by omega) (by omega) (by omega) (by omega), i3_div (by omega) (by omega) (by omega) (by omega)]
      have fin : ∀ u v : Int, u = ax F e → v = ay F e → GoVq omP17 E mt_28 112 [some (.ref 17), some (.int (i3 (e : Nat))), none, none, some (.int (i3 (stp F e : Nat))), some (.int (i3 1))] (gj_u2 (gj_u2 (gj_u2 A 22 e (i3 (stp F e : Nat))) 20 e (i3 u)) 21 e (i3 v)) B Q := by
        intro u v hu hv
        subst hu; subst hv
        refine inner _ ⟨((g1.u (by unfold LD17; omega)).u (by unfold LD17; omega)).u (by unfold LD17; omega), by rw [u2_n (by omega), u2_n (by omega), u2_n (by omega)]; exact g2, fun t ht => ?_, fun i hi => ?_⟩
        · by_cases q : t = e
          · subst q
            rw [u2_n (by omega), u2_s, u2_s, u2_n (by omega), u2_n (by omega), u2_s]; exact ⟨rfl, rfl, rfl⟩
          · rw [u2_n (by omega), u2_n (by omega), u2_n (by omega), u2_n (by omega), u2_n (by omega), u2_n (by omega), u2_n (by omega), u2_n (by omega), u2_n (by omega)]; exact g3 t (by omega)
        · rw [u2_n (by omega), u2_n (by omega), u2_n (by omega), u2_n (by omega), u2_n (by omega), u2_n (by omega)]; exact g4 i hi
      have e1 : (stp F e : Int) ≤ 1 → cx F (e + 1) - cx F e = ax F e ∧ cy F (e + 1) - cy F e = ay F e := by
        intro q
        have q1 : stp F e = 1 := by omega
        unfold ax ay; rw [q1]
        exact ⟨(Int.tdiv_one _).symm, (Int.tdiv_one _).symm⟩
      refine ⟨fun q => ⟨fun _ => fin _ _ (e1 q).1 (e1 q).2, fun q2 => absurd q q2⟩, fun q => ⟨by omega, fun q2 => absurd q2 q, fun _ => fin _ _ rfl rfl⟩⟩
end DerQ17
abbrev omP29 : gj_Om := (37, gj_Rq 35)
set_option maxHeartbeats 4000000 in
set_option maxRecDepth 20000 in
theorem st_29_29q {E : gj_E} {Q : Int32 → gj_I → gj_J → Prop} (a1 : Int32) (SI : gj_I) (SJ : gj_J) (h : ((SI 29 7) ≤ (a1 + (i3 1)) → Q (i3 0) SI SJ) ∧ (¬ (SI 29 7) ≤ (a1 + (i3 1)) → Q (a1 + (i3 1)) SI SJ)) : DoIq omP29 E 29 [(.ref 29), (.int a1)] SI SJ Q := by
  refine gj_start (M := mt_29) ok_29 (Nat.le_of_ble_eq_true rfl) ?_
  refine gj_goq gj_clT ok_29 [] ?_
  show ((SI 29 7) ≤ (a1 + (i3 1)) → gj_Goes E omP29 mt_29 16 [some (.ref 29), some (.int a1)] [] SI SJ (QI Q)) ∧ (¬ (SI 29 7) ≤ (a1 + (i3 1)) → gj_Goes E omP29 mt_29 17 [some (.ref 29), some (.int a1)] [(.int (a1 + (i3 1)))] SI SJ (QI Q))
  refine ⟨fun c1 => ?_, fun c1 => ?_⟩
  · refine gj_goq gj_clT ok_29 [] ?_
    show QI Q (some (.int (i3 0))) SI SJ
    exact ⟨_, rfl, (h.1 c1)⟩
  · refine gj_goq gj_clT ok_29 [] ?_
    show QI Q (some (.int (a1 + (i3 1)))) SI SJ
    exact ⟨_, rfl, (h.2 c1)⟩
set_option maxHeartbeats 4000000 in
set_option maxRecDepth 20000 in
theorem st_28_29q {E : gj_E} {Q : gj_I → gj_J → Prop} (SI : gj_I) (SJ : gj_J) (h : GoVq omP29 E mt_28 7 [some (.ref 29), some (.int (i3 0)), none, none, none, none] (gj_u2 SI 29 8 (i3 0)) SJ Q) : DoVq omP29 E 28 [(.ref 29)] SI SJ Q := by
  refine gj_start (M := mt_28) ok_28 (Nat.le_of_ble_eq_true rfl) ?_
  refine gj_goq gj_clT ok_28 [7, 24, 42, 58, 112] ?_
  show gj_Goes E omP29 mt_28 7 [some (.ref 29), some (.int (i3 0)), none, none, none, none] [] (gj_u2 SI 29 8 (i3 0)) SJ (QV Q)
  exact h
set_option maxHeartbeats 4000000 in
set_option maxRecDepth 20000 in
theorem lp_28_7_29q {E : gj_E} {Q : gj_I → gj_J → Prop} (x1 : Int32) (SI : gj_I) (SJ : gj_J) (h : ((SI 29 7) ≤ x1 → Q SI SJ) ∧ (¬ (SI 29 7) ≤ x1 → DoIq omP29 E 29 [(.ref 29), (.int x1)] SI SJ (fun r1 SI2 SJ2 => vp_in r1 8 ∧ (vp_in x1 8 ∧ (DoIq omP29 E 29 [(.ref 29), (.int x1)] SI2 SJ2 (fun r3 SI4 SJ4 => vp_in r3 8 ∧ (DoLq omP29 E 154 [(.long ((SI2 30 (gj_n r1)) - (SI2 30 (gj_n x1))).toInt64), (.long ((SI4 31 (gj_n r3)) - (SI4 31 (gj_n x1))).toInt64)] SI4 SJ4 (fun r5 SI6 SJ6 => ((r5).toInt32 ≤ (i3 1) → ((r5).toInt32 ≤ (i3 1) → GoVq omP29 E mt_28 112 [some (.ref 29), some (.int x1), none, none, some (.int (r5).toInt32), some (.int (i3 1))] (gj_u2 (gj_u2 (gj_u2 SI6 34 (gj_n x1) (r5).toInt32) 32 (gj_n x1) ((SI2 30 (gj_n r1)) - (SI2 30 (gj_n x1)))) 33 (gj_n x1) ((SI4 31 (gj_n r3)) - (SI4 31 (gj_n x1)))) SJ6 Q) ∧ (¬ (r5).toInt32 ≤ (i3 1) → ¬ (r5).toInt32 = 0 ∧ (GoVq omP29 E mt_28 112 [some (.ref 29), some (.int x1), none, none, some (.int (r5).toInt32), some (.int (i3 1))] (gj_u2 (gj_u2 (gj_u2 SI6 34 (gj_n x1) (r5).toInt32) 32 (gj_n x1) ((SI2 30 (gj_n r1)) - (SI2 30 (gj_n x1)))) 33 (gj_n x1) (((SI4 31 (gj_n r3)) - (SI4 31 (gj_n x1))) / (r5).toInt32)) SJ6 Q))) ∧ (¬ (r5).toInt32 ≤ (i3 1) → ¬ (r5).toInt32 = 0 ∧ (((r5).toInt32 ≤ (i3 1) → GoVq omP29 E mt_28 112 [some (.ref 29), some (.int x1), none, none, some (.int (r5).toInt32), some (.int (i3 1))] (gj_u2 (gj_u2 (gj_u2 SI6 34 (gj_n x1) (r5).toInt32) 32 (gj_n x1) (((SI2 30 (gj_n r1)) - (SI2 30 (gj_n x1))) / (r5).toInt32)) 33 (gj_n x1) ((SI4 31 (gj_n r3)) - (SI4 31 (gj_n x1)))) SJ6 Q) ∧ (¬ (r5).toInt32 ≤ (i3 1) → GoVq omP29 E mt_28 112 [some (.ref 29), some (.int x1), none, none, some (.int (r5).toInt32), some (.int (i3 1))] (gj_u2 (gj_u2 (gj_u2 SI6 34 (gj_n x1) (r5).toInt32) 32 (gj_n x1) (((SI2 30 (gj_n r1)) - (SI2 30 (gj_n x1))) / (r5).toInt32)) 33 (gj_n x1) (((SI4 31 (gj_n r3)) - (SI4 31 (gj_n x1))) / (r5).toInt32)) SJ6 Q))))))))))) : GoVq omP29 E mt_28 7 [some (.ref 29), some (.int x1), none, none, none, none] SI SJ Q := by
  refine gj_goq gj_clT ok_28 [7, 24, 42, 58, 112] ?_
  show ((SI 29 7) ≤ x1 → gj_Goes E omP29 mt_28 171 [some (.ref 29), some (.int x1), none, none, none, none] [] SI SJ (QV Q)) ∧ (¬ (SI 29 7) ≤ x1 → gj_Do E omP29 (gj_mt 29) [(.ref 29), (.int x1)] SI SJ _)
  refine ⟨fun c1 => ?_, fun c1 => ?_⟩
  · refine gj_goq gj_clT ok_28 [7, 24, 42, 58, 112] ?_
    show QV Q none SI SJ
    exact ⟨rfl, (h.1 c1)⟩
  · refine gj_Do.mono (h.2 c1) (fun v_ SI2 SJ2 h_ => ?_)
    obtain ⟨r1, rfl, q2⟩ := h_
    show gj_Goes E omP29 mt_28 24 [some (.ref 29), some (.int x1), none, none, none, none] [(.int r1), (.ref 30)] SI2 SJ2 (QV Q)
    refine gj_goq gj_clT ok_28 [7, 24, 42, 58, 112] ?_
    show vp_in r1 8 ∧ (vp_in x1 8 ∧ (gj_Do E omP29 (gj_mt 29) [(.ref 29), (.int x1)] SI2 SJ2 _))
    have k3 := q2.1
    refine ⟨k3, ?_⟩
    have k4 := q2.2.1
    refine ⟨k4, ?_⟩
    refine gj_Do.mono q2.2.2 (fun v_ SI4 SJ4 h_ => ?_)
    obtain ⟨r3, rfl, q5⟩ := h_
    show gj_Goes E omP29 mt_28 42 [some (.ref 29), some (.int x1), some (.int ((SI2 30 (gj_n r1)) - (SI2 30 (gj_n x1)))), none, none, none] [(.int r3), (.ref 31)] SI4 SJ4 (QV Q)
    refine gj_goq gj_clT ok_28 [7, 24, 42, 58, 112] ?_
    show vp_in r3 8 ∧ (vp_in x1 8 ∧ (gj_Do E omP29 (gj_mt 154) [(.long ((SI2 30 (gj_n r1)) - (SI2 30 (gj_n x1))).toInt64), (.long ((SI4 31 (gj_n r3)) - (SI4 31 (gj_n x1))).toInt64)] SI4 SJ4 _))
    have k6 := q5.1
    refine ⟨k6, ?_⟩
    refine ⟨k4, ?_⟩
    refine gj_Do.mono q5.2 (fun v_ SI6 SJ6 h_ => ?_)
    obtain ⟨r5, rfl, q7⟩ := h_
    show gj_Goes E omP29 mt_28 58 [some (.ref 29), some (.int x1), some (.int ((SI2 30 (gj_n r1)) - (SI2 30 (gj_n x1)))), some (.int ((SI4 31 (gj_n r3)) - (SI4 31 (gj_n x1)))), none, none] [(.long r5)] SI6 SJ6 (QV Q)
    refine gj_goq gj_clT ok_28 [7, 24, 42, 58, 112] ?_
    show vp_in x1 8 ∧ (((r5).toInt32 ≤ (i3 1) → gj_Goes E omP29 mt_28 87 [some (.ref 29), some (.int x1), some (.int ((SI2 30 (gj_n r1)) - (SI2 30 (gj_n x1)))), some (.int ((SI4 31 (gj_n r3)) - (SI4 31 (gj_n x1)))), some (.int (r5).toInt32), none] [(.int x1), (.ref 32)] (gj_u2 SI6 34 (gj_n x1) (r5).toInt32) SJ6 (QV Q)) ∧ (¬ (r5).toInt32 ≤ (i3 1) → ¬ (r5).toInt32 = 0 ∧ (gj_Goes E omP29 mt_28 88 [some (.ref 29), some (.int x1), some (.int ((SI2 30 (gj_n r1)) - (SI2 30 (gj_n x1)))), some (.int ((SI4 31 (gj_n r3)) - (SI4 31 (gj_n x1)))), some (.int (r5).toInt32), none] [(.int (((SI2 30 (gj_n r1)) - (SI2 30 (gj_n x1))) / (r5).toInt32)), (.int x1), (.ref 32)] (gj_u2 SI6 34 (gj_n x1) (r5).toInt32) SJ6 (QV Q))))
    refine ⟨k4, ?_⟩
    refine ⟨fun c8 => ?_, fun c8 => ?_⟩
    · refine gj_goq gj_clT ok_28 [7, 24, 42, 58, 112] ?_
      show vp_in x1 8 ∧ (((r5).toInt32 ≤ (i3 1) → gj_Goes E omP29 mt_28 107 [some (.ref 29), some (.int x1), some (.int ((SI2 30 (gj_n r1)) - (SI2 30 (gj_n x1)))), some (.int ((SI4 31 (gj_n r3)) - (SI4 31 (gj_n x1)))), some (.int (r5).toInt32), none] [(.int x1), (.ref 33)] (gj_u2 (gj_u2 SI6 34 (gj_n x1) (r5).toInt32) 32 (gj_n x1) ((SI2 30 (gj_n r1)) - (SI2 30 (gj_n x1)))) SJ6 (QV Q)) ∧ (¬ (r5).toInt32 ≤ (i3 1) → ¬ (r5).toInt32 = 0 ∧ (gj_Goes E omP29 mt_28 108 [some (.ref 29), some (.int x1), some (.int ((SI2 30 (gj_n r1)) - (SI2 30 (gj_n x1)))), some (.int ((SI4 31 (gj_n r3)) - (SI4 31 (gj_n x1)))), some (.int (r5).toInt32), none] [(.int (((SI4 31 (gj_n r3)) - (SI4 31 (gj_n x1))) / (r5).toInt32)), (.int x1), (.ref 33)] (gj_u2 (gj_u2 SI6 34 (gj_n x1) (r5).toInt32) 32 (gj_n x1) ((SI2 30 (gj_n r1)) - (SI2 30 (gj_n x1)))) SJ6 (QV Q))))
      refine ⟨k4, ?_⟩
      refine ⟨fun c9 => ?_, fun c9 => ?_⟩
      · refine gj_goq gj_clT ok_28 [7, 24, 42, 58, 112] ?_
        show vp_in x1 8 ∧ (gj_Goes E omP29 mt_28 112 [some (.ref 29), some (.int x1), some (.int ((SI2 30 (gj_n r1)) - (SI2 30 (gj_n x1)))), some (.int ((SI4 31 (gj_n r3)) - (SI4 31 (gj_n x1)))), some (.int (r5).toInt32), some (.int (i3 1))] [] (gj_u2 (gj_u2 (gj_u2 SI6 34 (gj_n x1) (r5).toInt32) 32 (gj_n x1) ((SI2 30 (gj_n r1)) - (SI2 30 (gj_n x1)))) 33 (gj_n x1) ((SI4 31 (gj_n r3)) - (SI4 31 (gj_n x1)))) SJ6 (QV Q))
        refine ⟨k4, ?_⟩
        exact gj_fh ((q7.1 c8).1 c9) (And.intro (Or.inr rfl) (And.intro (Or.inr rfl) (And.intro (Or.inl rfl) (And.intro (Or.inl rfl) (And.intro (Or.inr rfl) (And.intro (Or.inr rfl) trivial))))))
      · have k10 := ((q7.1 c8).2 c9).1
        refine ⟨k10, ?_⟩
        refine gj_goq gj_clT ok_28 [7, 24, 42, 58, 112] ?_
        show vp_in x1 8 ∧ (gj_Goes E omP29 mt_28 112 [some (.ref 29), some (.int x1), some (.int ((SI2 30 (gj_n r1)) - (SI2 30 (gj_n x1)))), some (.int ((SI4 31 (gj_n r3)) - (SI4 31 (gj_n x1)))), some (.int (r5).toInt32), some (.int (i3 1))] [] (gj_u2 (gj_u2 (gj_u2 SI6 34 (gj_n x1) (r5).toInt32) 32 (gj_n x1) ((SI2 30 (gj_n r1)) - (SI2 30 (gj_n x1)))) 33 (gj_n x1) (((SI4 31 (gj_n r3)) - (SI4 31 (gj_n x1))) / (r5).toInt32)) SJ6 (QV Q))
        refine ⟨k4, ?_⟩
        exact gj_fh ((q7.1 c8).2 c9).2 (And.intro (Or.inr rfl) (And.intro (Or.inr rfl) (And.intro (Or.inl rfl) (And.intro (Or.inl rfl) (And.intro (Or.inr rfl) (And.intro (Or.inr rfl) trivial))))))
    · have k11 := (q7.2 c8).1
      refine ⟨k11, ?_⟩
      refine gj_goq gj_clT ok_28 [7, 24, 42, 58, 112] ?_
      show vp_in x1 8 ∧ (((r5).toInt32 ≤ (i3 1) → gj_Goes E omP29 mt_28 107 [some (.ref 29), some (.int x1), some (.int ((SI2 30 (gj_n r1)) - (SI2 30 (gj_n x1)))), some (.int ((SI4 31 (gj_n r3)) - (SI4 31 (gj_n x1)))), some (.int (r5).toInt32), none] [(.int x1), (.ref 33)] (gj_u2 (gj_u2 SI6 34 (gj_n x1) (r5).toInt32) 32 (gj_n x1) (((SI2 30 (gj_n r1)) - (SI2 30 (gj_n x1))) / (r5).toInt32)) SJ6 (QV Q)) ∧ (¬ (r5).toInt32 ≤ (i3 1) → ¬ (r5).toInt32 = 0 ∧ (gj_Goes E omP29 mt_28 108 [some (.ref 29), some (.int x1), some (.int ((SI2 30 (gj_n r1)) - (SI2 30 (gj_n x1)))), some (.int ((SI4 31 (gj_n r3)) - (SI4 31 (gj_n x1)))), some (.int (r5).toInt32), none] [(.int (((SI4 31 (gj_n r3)) - (SI4 31 (gj_n x1))) / (r5).toInt32)), (.int x1), (.ref 33)] (gj_u2 (gj_u2 SI6 34 (gj_n x1) (r5).toInt32) 32 (gj_n x1) (((SI2 30 (gj_n r1)) - (SI2 30 (gj_n x1))) / (r5).toInt32)) SJ6 (QV Q))))
      refine ⟨k4, ?_⟩
      refine ⟨fun c12 => ?_, fun c12 => ?_⟩
      · refine gj_goq gj_clT ok_28 [7, 24, 42, 58, 112] ?_
        show vp_in x1 8 ∧ (gj_Goes E omP29 mt_28 112 [some (.ref 29), some (.int x1), some (.int ((SI2 30 (gj_n r1)) - (SI2 30 (gj_n x1)))), some (.int ((SI4 31 (gj_n r3)) - (SI4 31 (gj_n x1)))), some (.int (r5).toInt32), some (.int (i3 1))] [] (gj_u2 (gj_u2 (gj_u2 SI6 34 (gj_n x1) (r5).toInt32) 32 (gj_n x1) (((SI2 30 (gj_n r1)) - (SI2 30 (gj_n x1))) / (r5).toInt32)) 33 (gj_n x1) ((SI4 31 (gj_n r3)) - (SI4 31 (gj_n x1)))) SJ6 (QV Q))
        refine ⟨k4, ?_⟩
        exact gj_fh ((q7.2 c8).2.1 c12) (And.intro (Or.inr rfl) (And.intro (Or.inr rfl) (And.intro (Or.inl rfl) (And.intro (Or.inl rfl) (And.intro (Or.inr rfl) (And.intro (Or.inr rfl) trivial))))))
      · refine ⟨k11, ?_⟩
        refine gj_goq gj_clT ok_28 [7, 24, 42, 58, 112] ?_
        show vp_in x1 8 ∧ (gj_Goes E omP29 mt_28 112 [some (.ref 29), some (.int x1), some (.int ((SI2 30 (gj_n r1)) - (SI2 30 (gj_n x1)))), some (.int ((SI4 31 (gj_n r3)) - (SI4 31 (gj_n x1)))), some (.int (r5).toInt32), some (.int (i3 1))] [] (gj_u2 (gj_u2 (gj_u2 SI6 34 (gj_n x1) (r5).toInt32) 32 (gj_n x1) (((SI2 30 (gj_n r1)) - (SI2 30 (gj_n x1))) / (r5).toInt32)) 33 (gj_n x1) (((SI4 31 (gj_n r3)) - (SI4 31 (gj_n x1))) / (r5).toInt32)) SJ6 (QV Q))
        refine ⟨k4, ?_⟩
        exact gj_fh ((q7.2 c8).2.2 c12) (And.intro (Or.inr rfl) (And.intro (Or.inr rfl) (And.intro (Or.inl rfl) (And.intro (Or.inl rfl) (And.intro (Or.inr rfl) (And.intro (Or.inr rfl) trivial))))))
set_option maxHeartbeats 4000000 in
set_option maxRecDepth 20000 in
theorem lp_28_112_29q {E : gj_E} {Q : gj_I → gj_J → Prop} (x1 : Int32) (x4 : Int32) (x5 : Int32) (SI : gj_I) (SJ : gj_J) (h : (x4 ≤ x5 → GoVq omP29 E mt_28 7 [some (.ref 29), some (.int (x1 + (i3 1))), none, none, none, none] SI SJ Q) ∧ (¬ x4 ≤ x5 → ((i3 72) ≤ (SI 29 8) → GoVq omP29 E mt_28 7 [some (.ref 29), some (.int (x1 + (i3 1))), none, none, none, none] SI SJ Q) ∧ (¬ (i3 72) ≤ (SI 29 8) → vp_in (SI 29 8) 72 ∧ (GoVq omP29 E mt_28 112 [some (.ref 29), some (.int x1), none, none, some (.int x4), some (.int (x5 + (i3 1)))] (gj_u2 (gj_u2 (gj_u2 SI 35 (gj_n (SI 29 8)) x1) 36 (gj_n (SI 29 8)) x5) 29 8 ((SI 29 8) + (i3 1))) SJ Q)))) : GoVq omP29 E mt_28 112 [some (.ref 29), some (.int x1), none, none, some (.int x4), some (.int x5)] SI SJ Q := by
  refine gj_goq gj_clT ok_28 [7, 24, 42, 58, 112] ?_
  show (x4 ≤ x5 → gj_Goes E omP29 mt_28 165 [some (.ref 29), some (.int x1), none, none, some (.int x4), some (.int x5)] [] SI SJ (QV Q)) ∧ (¬ x4 ≤ x5 → ((i3 72) ≤ (SI 29 8) → gj_Goes E omP29 mt_28 165 [some (.ref 29), some (.int x1), none, none, some (.int x4), some (.int x5)] [] SI SJ (QV Q)) ∧ (¬ (i3 72) ≤ (SI 29 8) → vp_in (SI 29 8) 72 ∧ (vp_in (SI 29 8) 72 ∧ (gj_Goes E omP29 mt_28 112 [some (.ref 29), some (.int x1), none, none, some (.int x4), some (.int (x5 + (i3 1)))] [] (gj_u2 (gj_u2 (gj_u2 SI 35 (gj_n (SI 29 8)) x1) 36 (gj_n (SI 29 8)) x5) 29 8 ((SI 29 8) + (i3 1))) SJ (QV Q)))))
  refine ⟨fun c1 => ?_, fun c1 => ?_⟩
  · refine gj_goq gj_clT ok_28 [7, 24, 42, 58, 112] ?_
    show gj_Goes E omP29 mt_28 7 [some (.ref 29), some (.int (x1 + (i3 1))), none, none, some (.int x4), some (.int x5)] [] SI SJ (QV Q)
    exact gj_fh (h.1 c1) (And.intro (Or.inr rfl) (And.intro (Or.inr rfl) (And.intro (Or.inl rfl) (And.intro (Or.inl rfl) (And.intro (Or.inl rfl) (And.intro (Or.inl rfl) trivial))))))
  · refine ⟨fun c2 => ?_, fun c2 => ?_⟩
    · refine gj_goq gj_clT ok_28 [7, 24, 42, 58, 112] ?_
      show gj_Goes E omP29 mt_28 7 [some (.ref 29), some (.int (x1 + (i3 1))), none, none, some (.int x4), some (.int x5)] [] SI SJ (QV Q)
      exact gj_fh ((h.2 c1).1 c2) (And.intro (Or.inr rfl) (And.intro (Or.inr rfl) (And.intro (Or.inl rfl) (And.intro (Or.inl rfl) (And.intro (Or.inl rfl) (And.intro (Or.inl rfl) trivial))))))
    · have k3 := ((h.2 c1).2 c2).1
      refine ⟨k3, ?_⟩
      refine ⟨k3, ?_⟩
      exact ((h.2 c1).2 c2).2
def LD29 (o k : Nat) : Prop := o = 32 ∨ o = 33 ∨ o = 34 ∨ o = 35 ∨ o = 36 ∨ (o = 29 ∧ k = 8)
section DerQ29
variable {E : gj_E} {SI : gj_I} {SJ : gj_J} {F : Nat → Int}
theorem sp_next29q {Q : Int32 → gj_I → gj_J → Prop} {a : Int32} (h7 : SI 29 7 = i3 (F 0)) (hW : Wc F) (i : Nat) (hi : i < nC F) (ha : a = i3 i) (h : Q (i3 (nx F i : Nat)) SI SJ) : DoIq omP29 E 29 [(.ref 29), (.int a)] SI SJ Q := by
  subst ha
  obtain ⟨n1, n2, n3⟩ := hW.n
  refine st_29_29q _ SI SJ ?_
  rw [h7, n3, i3_add, i3_le (by omega) (by omega) (by omega) (by omega)]
  unfold nx at h
  refine ⟨fun c => ?_, fun c => ?_⟩
  · rw [show i + 1 = nC F by omega, Nat.mod_self] at h; exact h
  · rw [Nat.mod_eq_of_lt (by omega)] at h; exact h
theorem sp_derive29q {Q : gj_I → gj_J → Prop} (hX : PX29 F SI) (hW : Wp F) (h : ∀ SI', FI LD29 SI SI' → PD29 F SI' → Q SI' SJ) : DoVq omP29 E 28 [(.ref 29)] SI SJ Q := by
  obtain ⟨n1, n2, n3⟩ := hW.1.n
  obtain ⟨pe1, pe2⟩ := pn_e hW
  refine st_28_29q SI SJ ?_
  have plb : ∀ e, e ≤ nC F → 0 ≤ pl F e ∧ pl F e ≤ pn F := by
    intro e he
    have a := hW.mono e 0
    have b := hW.mono (nC F - e) e
    rw [show e + (nC F - e) = nC F by omega] at b
    rw [Nat.zero_add] at a
    have c : pl F 0 = 0 := rfl
    omega
  let HR : Nat → Int → gj_I → Prop := fun e p A => FI LD29 SI A ∧ A 29 8 = i3 p ∧ (∀ t, t < e → A 32 t = i3 (ax F t) ∧ A 33 t = i3 (ay F t) ∧ A 34 t = i3 (stp F t)) ∧ ∀ i : Nat, (i : Int) < p → A 35 i = i3 (pe F i) ∧ A 36 i = i3 (ps F i)
  refine up_lp (α := Unit) (P := fun e _ A B => B = SJ ∧ HR e (pl F e) A) (G := fun e _ A B => GoVq omP29 E mt_28 7 [some (.ref 29), some (.int (i3 (e : Nat))), none, none, none, none] A B Q) (nC F) ?_ ?_ 0 () _ SJ (by omega) ⟨rfl, FI.rf.u (by unfold LD29; omega), u2_s, fun t ht => by omega, fun i hi => by have c : pl F 0 = 0 := rfl; omega⟩
  · rintro _ A B ⟨rfl, g1, g2, g3, g4⟩
    have e7 : A 29 7 = i3 (F 0) := by rw [g1 29 7 (by unfold LD29; omega)]; exact hX.1
    refine lp_28_7_29q _ A B ⟨fun _ => h A g1 ⟨g3, by rw [g2, pe1], fun i hi => g4 i (by omega)⟩, fun c => ?_⟩
    rw [e7, n3, i3_le (by omega) (by omega) (by omega) (by omega)] at c; omega
  · rintro e _ A B he ⟨rfl, g1, g2, g3, g4⟩ ih
    have hXA : PX29 F A := hX.f g1 (by unfold LD29; exact ⟨by omega, fun k => by omega⟩)
    have e7 := hXA.1
    obtain ⟨y1, y2⟩ := hXA.2 e he
    obtain ⟨z0, z1, z2⟩ := hXA.xn hW.1 e
    have b1 := hW.1.b e; have b2 := hW.1.b (e + 1); have sb := hW.1.s e; have sp := hW.2.2 e
    have p1 := plb e (by omega); have p2 := plb (e + 1) (by omega)
    have eps : pl F (e + 1) = pl F e + stp F e - 1 := rfl
    have inner : ∀ A', HR (e + 1) (pl F e) A' → GoVq omP29 E mt_28 112 [some (.ref 29), some (.int (i3 (e : Nat))), none, none, some (.int (i3 (stp F e : Nat))), some (.int (i3 1))] A' B Q := by
      intro A' hH
      refine up_lp (α := Unit) (P := fun k _ A B' => B' = B ∧ 1 ≤ k ∧ HR (e + 1) (pl F e + k - 1) A) (G := fun k _ A B => GoVq omP29 E mt_28 112 [some (.ref 29), some (.int (i3 (e : Nat))), none, none, some (.int (i3 (stp F e : Nat))), some (.int (i3 (k : Nat)))] A B Q) (stp F e) ?_ ?_ 1 () A' B (by omega) ⟨rfl, by omega, by rw [show pl F e + ((1 : Nat) : Int) - 1 = pl F e by omega]; exact hH⟩
      · rintro _ A B ⟨rfl, k1, hH⟩
        refine lp_28_112_29q _ _ _ A B ⟨fun _ => ?_, fun c => ?_⟩
        · rw [i3_add]
          exact ih () A B ⟨rfl, by rw [eps]; exact hH⟩
        · rw [i3_le (by omega) (by omega) (by omega) (by omega)] at c; omega
      · rintro k _ A B hk ⟨rfl, k1, f1, f2, f3, f4⟩ ih2
        refine lp_28_112_29q _ _ _ A B ⟨fun c => ?_, fun c => ?_⟩
        · rw [i3_le (by omega) (by omega) (by omega) (by omega)] at c; omega
        · obtain ⟨m, hm⟩ : ∃ m : Nat, pl F e + k - 1 = m := ⟨(pl F e + k - 1).toNat, by omega⟩
          rw [f2, hm, i3_le (by omega) (by omega) (by omega) (by omega), i3_in (by omega) (by omega), i3_n (by omega) (by omega), show ((m : Nat) : Int).toNat = m by omega, i3_add, i3_add]
          refine ⟨fun q => by omega, fun _ => ⟨by omega, ih2 () _ B ⟨rfl, by omega, ?_, ?_, ?_, ?_⟩⟩⟩
          · exact ((f1.u (by unfold LD29; omega)).u (by unfold LD29; omega)).u (by unfold LD29; omega)
          · rw [u2_s, i3_add]; exact i3_c (by omega)
          · intro t ht
            rw [u2_n (by omega), u2_n (by omega), u2_n (by omega), u2_n (by omega), u2_n (by omega), u2_n (by omega), u2_n (by omega), u2_n (by omega), u2_n (by omega)]; exact f3 t ht
          · intro i hi
            by_cases q : i = m
            · subst q
              have q0 : 0 ≤ (i : Int) := by omega
              have q1 : (i : Int) < pl F (nC F) := by omega
              obtain ⟨w1, w2, w3⟩ := pe_s q0 q1
              have ee : pe F i = e := pl_un hW w2 w3 (by omega) (by omega)
              have es : ps F i = k := by unfold ps; rw [ee]; omega
              rw [u2_n (by omega), u2_n (by omega), u2_s, u2_n (by omega), u2_s, ee, es]; exact ⟨rfl, rfl⟩
            · rw [u2_n (by omega), u2_n (by omega), u2_n (by omega), u2_n (by omega), u2_n (by omega), u2_n (by omega)]; exact f4 i (by omega)
    refine lp_28_7_29q _ A B ⟨fun c => ?_, fun c => sp_next29q e7 hW.1 e he rfl ?_⟩
    · rw [e7, n3, i3_le (by omega) (by omega) (by omega) (by omega)] at c; omega
    · rw [i3_in (by omega) (by omega), i3_in (by omega) (by omega)]
      refine ⟨by omega, by omega, sp_next29q e7 hW.1 e he rfl ?_⟩
      rw [i3_in (by omega) (by omega), i3_n (by omega) (by omega), i3_n (by omega) (by omega), show ((e : Nat) : Int).toNat = e by omega, show ((nx F e : Nat) : Int).toNat = nx F e by omega, y1, y2, z1, z2, i3_sub, i3_sub, i3_64 (by omega) (by omega), i3_64 (by omega) (by omega)]
      refine ⟨by omega, sp_divisorq (by omega) (by omega) (by omega) (by omega) ?_⟩
      have eg : Int.gcd (cx F (e + 1) - cx F e) (cy F (e + 1) - cy F e) = stp F e := rfl
      rw [eg, i6_32 (by omega) (by omega), i3_le (by omega) (by omega) (by omega) (by omega), i3_eq0 (by omega) (by omega), i3_div (by omega) (by omega) (by omega) (by omega), i3_div (by omega) (by omega) (by omega) (by omega)]
      have fin : ∀ u v : Int, u = ax F e → v = ay F e → GoVq omP29 E mt_28 112 [some (.ref 29), some (.int (i3 (e : Nat))), none, none, some (.int (i3 (stp F e : Nat))), some (.int (i3 1))] (gj_u2 (gj_u2 (gj_u2 A 34 e (i3 (stp F e : Nat))) 32 e (i3 u)) 33 e (i3 v)) B Q := by
        intro u v hu hv
        subst hu; subst hv
        refine inner _ ⟨((g1.u (by unfold LD29; omega)).u (by unfold LD29; omega)).u (by unfold LD29; omega), by rw [u2_n (by omega), u2_n (by omega), u2_n (by omega)]; exact g2, fun t ht => ?_, fun i hi => ?_⟩
        · by_cases q : t = e
          · subst q
            rw [u2_n (by omega), u2_s, u2_s, u2_n (by omega), u2_n (by omega), u2_s]; exact ⟨rfl, rfl, rfl⟩
          · rw [u2_n (by omega), u2_n (by omega), u2_n (by omega), u2_n (by omega), u2_n (by omega), u2_n (by omega), u2_n (by omega), u2_n (by omega), u2_n (by omega)]; exact g3 t (by omega)
        · rw [u2_n (by omega), u2_n (by omega), u2_n (by omega), u2_n (by omega), u2_n (by omega), u2_n (by omega)]; exact g4 i hi
      have e1 : (stp F e : Int) ≤ 1 → cx F (e + 1) - cx F e = ax F e ∧ cy F (e + 1) - cy F e = ay F e := by
        intro q
        have q1 : stp F e = 1 := by omega
        unfold ax ay; rw [q1]
        exact ⟨(Int.tdiv_one _).symm, (Int.tdiv_one _).symm⟩
      refine ⟨fun q => ⟨fun _ => fin _ _ (e1 q).1 (e1 q).2, fun q2 => absurd q q2⟩, fun q => ⟨by omega, fun q2 => absurd q2 q, fun _ => fin _ _ rfl rfl⟩⟩
end DerQ29
