/-! 9q: the push across a line: class -/
noncomputable def lnA (W : Nat → V3) (n : Nat) : V3 := if n = 0 ∨ (W 0).1 = 0 then (1, 0, 0) else sgn3 (low3 (-(W 0).2.1, (W 0).1, 0))
theorem ln_g (x y : Int) : gcd3 (-y, x, 0) = Int.gcd x y := by
  show Nat.gcd (Nat.gcd (-y).natAbs x.natAbs : Int).natAbs (0 : Int).natAbs = Nat.gcd x.natAbs y.natAbs
  rw [Int.natAbs_neg, Int.natAbs_natCast, Int.natAbs_zero, Nat.gcd_zero_right, Nat.gcd_comm]
theorem ln_e {x y : Int} (hx : x ≠ 0) : sgn3 (low3 (-y, x, 0)) = ((-y * x.sign).tdiv (Int.gcd x y), (x.natAbs : Int).tdiv (Int.gcd x y), 0) := by
  have hz : ((-y, x, 0) : V3) ≠ (0, 0, 0) := fun z => by
    injection z with z1 z2
    injection z2 with z3 z4
    exact hx z3
  have g0 : gcd3 (-y, x, 0) ≠ 0 := fun z => hz (gcd3_0 z)
  have e : low3 (-y, x, 0) = ((-y).tdiv (gcd3 (-y, x, 0)), x.tdiv (gcd3 (-y, x, 0)), (0 : Int).tdiv (gcd3 (-y, x, 0))) := if_neg g0
  have l : lst (-y, x, 0) = x := by
    unfold lst; dsimp only; rw [if_pos rfl, if_neg hx]
  obtain ⟨-, s2⟩ := sgn_low hz
  rw [l] at s2
  rw [← s2, e, ln_g, Int.zero_tdiv]
  unfold sgv
  by_cases q : 0 < x
  · rw [Int.sign_eq_one_of_pos q, if_pos rfl, Int.mul_one, show (x.natAbs : Int) = x by omega]
  · have q2 : x < 0 := by omega
    rw [Int.sign_eq_neg_one_of_neg q2, if_neg (by decide), show (x.natAbs : Int) = -x by omega, show -y * -1 = -(-y) by omega, Int.neg_tdiv (-y), Int.neg_tdiv x]
    rfl
section LineC
variable {E : gj_E} {SI : gj_I} {SJ : gj_J} {F : Nat → Int} {W : Nat → V3} {O : Nat → Int} {n : Nat}
theorem sp_seekLine {Q : gj_I → gj_J → Prop} (hL : LB42 W O n SI SJ) (hn : n ≤ 14) (hB : Wb W n) (h : ∀ SJ', FJ LJcx SJ SJ' → CX (lnA W n) SJ' → Q SI SJ') : DoV E 48 [(.ref 61), (.ref 42)] SI SJ Q := by
  have f0 : FJ LJcx SJ (gj_w2 (gj_w2 (gj_w2 SJ 61 4 (i6 1)) 61 5 (i6 0)) 61 6 (i6 0)) := ((FJ.rf.w ⟨rfl, by decide, by decide⟩).w ⟨rfl, by decide, by decide⟩).w ⟨rfl, by decide, by decide⟩
  have x0 : CX (1, 0, 0) (gj_w2 (gj_w2 (gj_w2 SJ 61 4 (i6 1)) 61 5 (i6 0)) 61 6 (i6 0)) := ⟨by rw [w2_n (by omega), w2_n (by omega), w2_s], by rw [w2_n (by omega), w2_s], by rw [w2_s]⟩
  have bad : n = 0 ∨ (W 0).1 = 0 → Q SI (gj_w2 (gj_w2 (gj_w2 SJ 61 4 (i6 1)) 61 5 (i6 0)) 61 6 (i6 0)) := by
    intro z
    have e : lnA W n = (1, 0, 0) := if_pos z
    rw [e] at h; exact h _ f0 x0
  refine st_48 SI SJ ?_
  rw [hL.1, i3_eq0 (by omega) (by omega)]
  refine ⟨fun c => bad (by omega), fun c => ?_⟩
  obtain ⟨l1, l2, -, -⟩ := hL.2 0 (by omega)
  obtain ⟨b1, b2, b3⟩ := hB 0 (by omega)
  rw [l1, l2, i6_eq (by omega) (by omega) (by omega) (by omega)]
  refine ⟨fun d => sp_divisor (by omega) (by omega) (by omega) (by omega) ?_, fun d => bad (Or.inr d)⟩
  have gl : Int.gcd (W 0).1 (W 0).2.1 ≤ 60 := gcd_le (fun z => d z.1) b1 b2
  have g0 : Int.gcd (W 0).1 (W 0).2.1 ≠ 0 := fun z => d (Int.gcd_eq_zero_iff.mp z).1
  rw [i6_eq (by omega) (by omega) (by omega) (by omega), i6_eq0 (by omega) (by omega)]
  have m1 : gj_w2 (gj_w2 (gj_w2 SJ 61 4 (i6 1)) 61 5 (i6 0)) 61 6 (i6 0) 43 0 = i6 (W 0).1 := by rw [w2_n (by omega), w2_n (by omega), w2_n (by omega)]; exact l1
  have m2 : gj_w2 (gj_w2 (gj_w2 SJ 61 4 (i6 1)) 61 5 (i6 0)) 61 6 (i6 0) 44 0 = i6 (W 0).2.1 := by rw [w2_n (by omega), w2_n (by omega), w2_n (by omega)]; exact l2
  refine ⟨fun q => sp_lsignum (W 0).1 (by omega) (by omega) m1 ⟨q, ?_⟩, fun q => absurd q (by omega)⟩
  have sb : -1 ≤ (W 0).1.sign ∧ (W 0).1.sign ≤ 1 := by
    by_cases z : 0 < (W 0).1
    · rw [Int.sign_eq_one_of_pos z]; omega
    · rw [Int.sign_eq_neg_one_of_neg (by omega)]; omega
  have mb := mul_b (a := -(W 0).2.1) (b := (W 0).1.sign) (m := 60) (n := 1) (by omega) (by omega)
  rw [m1, m2, i6_neg, i3_64 (by omega) (by omega), i6_mul, i6_abs (by omega) (by omega), i6_div (by omega) (by omega) (by omega) (by omega), i6_div (by omega) (by omega) (by omega) (by omega)]
  have e : lnA W n = sgn3 (low3 (-(W 0).2.1, (W 0).1, 0)) := if_neg (fun z => z.elim (fun y => c (by omega)) d)
  rw [e, ln_e d] at h
  refine h _ ((f0.w ⟨rfl, by decide, by decide⟩).w ⟨rfl, by decide, by decide⟩) ⟨?_, ?_, ?_⟩
  · rw [w2_n (by omega), w2_s]
  · rw [w2_s]
  · rw [w2_n (by omega), w2_n (by omega), w2_s]
end LineC
