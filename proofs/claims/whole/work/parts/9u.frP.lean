/-! 9u: what a couple's sets say of the push that it makes: class -/
theorem ab0 {W : Nat → V3} {n : Nat} {p : V3} : abS W p n = 0 ↔ noM W n p := by
  constructor
  · intro h k hk
    apply Classical.byContradiction
    intro q
    have := (abS_bit W p n k).mpr ⟨hk, by rw [dot_com]; omega⟩
    rw [h, Nat.zero_testBit] at this
    cases this
  · intro h
    apply Nat.eq_of_testBit_eq
    intro k
    rw [Nat.zero_testBit]
    apply Bool.eq_false_iff.mpr
    intro z
    obtain ⟨z1, z2⟩ := (abS_bit W p n k).mp z
    have := h k z1
    rw [dot_com] at z2; omega
theorem dot_ng (p w : V3) : dot (neg3 p) w = -dot p w := by unfold dot neg3; dsimp only; grind
theorem be0 {W : Nat → V3} {n : Nat} {p : V3} : beS W p n = 0 ↔ noM W n (neg3 p) := by
  constructor
  · intro h k hk
    rw [dot_ng]
    apply Classical.byContradiction
    intro q
    have := (beS_bit W p n k).mpr ⟨hk, by rw [dot_com]; omega⟩
    rw [h, Nat.zero_testBit] at this
    cases this
  · intro h
    apply Nat.eq_of_testBit_eq
    intro k
    rw [Nat.zero_testBit]
    apply Bool.eq_false_iff.mpr
    intro z
    obtain ⟨z1, z2⟩ := (beS_bit W p n k).mp z
    have := h k z1
    rw [dot_ng] at this
    rw [dot_com] at z2; omega
theorem dot_low {p : V3} (hz : p ≠ (0, 0, 0)) (w : V3) : dot p w = dot (low3 p) w * gcd3 p := by
  obtain ⟨g0, e1, e2, e3⟩ := low_g hz
  have u : dot p w = p.1 * w.1 + p.2.1 * w.2.1 + p.2.2 * w.2.2 := rfl
  rw [u, e1, e2, e3]
  generalize (gcd3 p : Int) = g
  generalize low3 p = l
  unfold dot; grind
theorem low_le {p : V3} (hz : p ≠ (0, 0, 0)) (w : V3) : (dot (low3 p) w ≤ 0 ↔ dot p w ≤ 0) ∧ (dot (neg3 (low3 p)) w ≤ 0 ↔ dot (neg3 p) w ≤ 0) := by
  obtain ⟨g0, -⟩ := low_g hz
  have e := dot_low hz w
  rw [dot_ng, dot_ng]
  have k1 : 0 < dot (low3 p) w → 0 < dot p w := fun z => by rw [e]; exact Int.mul_pos z g0
  have k2 : dot (low3 p) w < 0 → dot p w < 0 := fun z => by rw [e]; exact Int.mul_neg_of_neg_of_pos z g0
  have k3 : dot (low3 p) w = 0 → dot p w = 0 := fun z => by rw [e, z, Int.zero_mul]
  omega
theorem noM_low {W : Nat → V3} {n : Nat} {p : V3} (hz : p ≠ (0, 0, 0)) : (noM W n (low3 p) ↔ noM W n p) ∧ (noM W n (neg3 (low3 p)) ↔ noM W n (neg3 p)) := by
  refine ⟨⟨fun h k hk => ((low_le hz (W k)).1.mp (h k hk)), fun h k hk => ((low_le hz (W k)).1.mpr (h k hk))⟩, ⟨fun h k hk => ((low_le hz (W k)).2.mp (h k hk)), fun h k hk => ((low_le hz (W k)).2.mpr (h k hk))⟩⟩
theorem frP_z {W : Nat → V3} {n i j : Nat} (hz : crs (W i) (W j) = (0, 0, 0)) : frP W n i j = none := ic_t hz
theorem frP_1 {W : Nat → V3} {n i j : Nat} (hz : crs (W i) (W j) ≠ (0, 0, 0)) (h : abS W (crs (W i) (W j)) n = 0) : frP W n i j = some (sgv 1 (low3 (crs (W i) (W j)))) := by
  unfold frP
  rw [ic_f hz, ic_t ((noM_low hz).1.mpr (ab0.mp h))]; rfl
theorem frP_2 {W : Nat → V3} {n i j : Nat} (hz : crs (W i) (W j) ≠ (0, 0, 0)) (h : abS W (crs (W i) (W j)) n ≠ 0) (h2 : beS W (crs (W i) (W j)) n = 0) : frP W n i j = some (sgv (-1) (low3 (crs (W i) (W j)))) := by
  unfold frP
  rw [ic_f hz, ic_f (fun z => h (ab0.mpr ((noM_low hz).1.mp z))), ic_t ((noM_low hz).2.mpr (be0.mp h2))]; rfl
theorem frP_3 {W : Nat → V3} {n i j : Nat} (hz : crs (W i) (W j) ≠ (0, 0, 0)) (h : abS W (crs (W i) (W j)) n ≠ 0) (h2 : beS W (crs (W i) (W j)) n ≠ 0) : frP W n i j = none := by
  unfold frP
  rw [ic_f hz, ic_f (fun z => h (ab0.mpr ((noM_low hz).1.mp z))), ic_f (fun z => h2 (be0.mpr ((noM_low hz).2.mp z)))]
