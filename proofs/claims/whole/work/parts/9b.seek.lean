/-! 9b: the class's hold: ones, twos, threes -/
theorem stn_sg {l : Int} (h : l ≠ 0) (x : Int) : stn l x = l.sign * x := by
  unfold stn
  rcases Int.lt_trichotomy l 0 with q | q | q
  · rw [if_pos (by omega), Int.sign_eq_neg_one_of_neg q]; omega
  · exact absurd q h
  · rw [if_neg (by omega), Int.sign_eq_one_of_pos q]; omega
theorem sg_nz {l : Int} (h : l ≠ 0) : l.sign = 1 ∧ 0 < l ∨ l.sign = -1 ∧ l < 0 := by
  rcases Int.lt_trichotomy l 0 with q | q | q
  · exact Or.inr ⟨Int.sign_eq_neg_one_of_neg q, q⟩
  · exact absurd q h
  · exact Or.inl ⟨Int.sign_eq_one_of_pos q, q⟩
theorem pr_sign {u l u' l' : Int} (hl : l ≠ 0) (hl' : l' ≠ 0) (h : u * l' = u' * l) : (l'.sign * u') * (l.sign * l) = (l.sign * u) * (l'.sign * l') ∧ (0 < l'.sign * u' ↔ 0 < l.sign * u) := by
  have e : (l'.sign * u') * (l.sign * l) = (l.sign * u) * (l'.sign * l') := by
    have : (l'.sign * u') * (l.sign * l) = l'.sign * l.sign * (u' * l) := by grind
    rw [this, ← h]; grind
  refine ⟨e, ?_⟩
  have p1 : 0 < l.sign * l := by rcases sg_nz hl with q | q <;> rw [q.1] <;> omega
  have p2 : 0 < l'.sign * l' := by rcases sg_nz hl' with q | q <;> rw [q.1] <;> omega
  generalize l'.sign * u' = a at *
  generalize l.sign * u = b at *
  generalize l.sign * l = c at *
  generalize l'.sign * l' = d at *
  constructor
  · intro q
    have := Int.mul_pos q p1
    rcases Int.lt_or_le 0 b with z | z
    · exact z
    · have := Int.mul_nonpos_of_nonpos_of_nonneg z (Int.le_of_lt p2); omega
  · intro q
    have := Int.mul_pos q p2
    rcases Int.lt_or_le 0 a with z | z
    · exact z
    · have := Int.mul_nonpos_of_nonpos_of_nonneg z (Int.le_of_lt p1); omega
def oc1 (w r : V3) : Prop := r.2.1 * w.2.2 = r.2.2 * w.2.1 ∧ r.2.2 * w.1 = r.1 * w.2.2 ∧ r.1 * w.2.1 = r.2.1 * w.1
theorem ok1_iff {W : Nat → V3} {r : V3} {i : Nat} (hz : ¬ ((W i).1 = 0 ∧ (W i).2.1 = 0)) : ok1 W r i ↔ oc1 (W i) r ∧ 0 < (raw1 (W i) r).1.sign * (raw1 (W i) r).2 := by
  have l0 : (raw1 (W i) r).1 ≠ 0 := by
    unfold raw1; split
    · intro z; exact hz ⟨by assumption, z⟩
    · assumption
  have ec : cd1 W r i = (1, (i, 0, 0), ((raw1 (W i) r).1.sign * (raw1 (W i) r).2, 0, 0), (raw1 (W i) r).1.sign * (raw1 (W i) r).1) := by
    unfold cd1; rw [stn_sg l0, stn_sg l0]
  unfold ok1 oc1
  rw [ec]
  dsimp only
  generalize W i = w at *
  obtain ⟨a, b, c⟩ := w
  obtain ⟨x, y, t⟩ := r
  unfold raw1 at *
  dsimp only at *
  by_cases ha : a = 0
  · subst ha
    rw [if_pos rfl] at *
    dsimp only at *
    rcases sg_nz l0 with ⟨q, qp⟩ | ⟨q, qp⟩
    · rw [q]
      constructor
      · rintro ⟨h1, h2, h3, h4⟩
        have x0 : x = 0 := by
          have : x * b = 0 := by grind
          rcases Int.mul_eq_zero.mp this with z | z
          · exact z
          · omega
        subst x0
        exact ⟨⟨by grind, by simp, by simp⟩, h4⟩
      · rintro ⟨⟨h1, h2, h3⟩, h4⟩
        have x0 : x = 0 := by
          have : x * b = 0 := by omega
          rcases Int.mul_eq_zero.mp this with z | z
          · exact z
          · omega
        subst x0
        exact ⟨by simp, by grind, by grind, h4⟩
    · rw [q]
      constructor
      · rintro ⟨h1, h2, h3, h4⟩
        have x0 : x = 0 := by
          have : x * b = 0 := by have : x * (-1 * b) = -(x * b) := by grind
                                 omega
          rcases Int.mul_eq_zero.mp this with z | z
          · exact z
          · omega
        subst x0
        refine ⟨⟨?_, by simp, by simp⟩, h4⟩
        have e1 : -1 * y * c = -(y * c) := by grind
        have e2 : t * (-1 * b) = -(t * b) := by grind
        omega
      · rintro ⟨⟨h1, h2, h3⟩, h4⟩
        have x0 : x = 0 := by
          have : x * b = 0 := by omega
          rcases Int.mul_eq_zero.mp this with z | z
          · exact z
          · omega
        subst x0
        have e1 : -1 * y * c = -(y * c) := by grind
        have e2 : t * (-1 * b) = -(t * b) := by grind
        exact ⟨by simp, by grind, by omega, h4⟩
  · rw [if_neg ha] at *
    dsimp only at *
    have key : x * b = y * a → x * c = t * a → y * c = t * b := by
      intro h1 h2
      have : a * (y * c) = a * (t * b) := by grind
      exact Int.eq_of_mul_eq_mul_left ha this
    rcases sg_nz l0 with ⟨q, qp⟩ | ⟨q, qp⟩
    · rw [q]
      constructor
      · rintro ⟨h1, h2, h3, h4⟩
        have k1 : x * b = y * a := by grind
        have k2 : x * c = t * a := by grind
        exact ⟨⟨key k1 k2, k2.symm, k1⟩, h4⟩
      · rintro ⟨⟨h1, h2, h3⟩, h4⟩
        exact ⟨by grind, by grind, by grind, h4⟩
    · rw [q]
      constructor
      · rintro ⟨h1, h2, h3, h4⟩
        have k1 : x * b = y * a := by grind
        have k2 : x * c = t * a := by grind
        exact ⟨⟨key k1 k2, k2.symm, k1⟩, h4⟩
      · rintro ⟨⟨h1, h2, h3⟩, h4⟩
        exact ⟨by grind, by grind, by grind, h4⟩
/-- the class's way: by pt, px, py -/
def raw2c (a b r : V3) : Int × Int × Int := if (crs a b).2.2 = 0 then (if (crs a b).1 = 0 then ((crs a b).2.1, r.2.2 * b.1 - r.1 * b.2.2, a.2.2 * r.1 - a.1 * r.2.2) else ((crs a b).1, r.2.1 * b.2.2 - r.2.2 * b.2.1, a.2.1 * r.2.2 - a.2.2 * r.2.1)) else ((crs a b).2.2, r.1 * b.2.1 - r.2.1 * b.1, a.1 * r.2.1 - a.2.1 * r.1)
theorem raw2_pr {a b r : V3} (hz : crs a b ≠ (0, 0, 0)) (hd : dot (crs a b) r = 0) : (raw2 a b r).1 ≠ 0 ∧ (raw2c a b r).1 ≠ 0 ∧ (raw2 a b r).2.1 * (raw2c a b r).1 = (raw2c a b r).2.1 * (raw2 a b r).1 ∧ (raw2 a b r).2.2 * (raw2c a b r).1 = (raw2c a b r).2.2 * (raw2 a b r).1 := by
  obtain ⟨a1, a2, a3⟩ := a
  obtain ⟨b1, b2, b3⟩ := b
  obtain ⟨x, y, t⟩ := r
  unfold dot crs at hd
  unfold crs at hz
  dsimp only at hd hz
  unfold raw2 raw2c crs
  dsimp only
  by_cases p3 : a1 * b2 - a2 * b1 = 0
  · rw [if_pos p3, if_pos p3]
    by_cases p2 : a3 * b1 - a1 * b3 = 0
    · rw [if_pos p2]
      by_cases p1 : a2 * b3 - a3 * b2 = 0
      · exact absurd (by rw [p1, p2, p3]) hz
      · rw [if_neg p1]
        exact ⟨p1, p1, rfl, rfl⟩
    · rw [if_neg p2]
      by_cases p1 : a2 * b3 - a3 * b2 = 0
      · rw [if_pos p1]
        exact ⟨p2, p2, rfl, rfl⟩
      · rw [if_neg p1]
        refine ⟨p2, p1, ?_, ?_⟩
        · dsimp only; grind
        · dsimp only; grind
  · rw [if_neg p3, if_neg p3]
    exact ⟨p3, p3, rfl, rfl⟩
theorem ok2_iff {W : Nat → V3} {r : V3} {i j : Nat} (hz : crs (W i) (W j) ≠ (0, 0, 0)) (hd : dot (crs (W i) (W j)) r = 0) : (ok2 W r i j ↔ (0 < (raw2c (W i) (W j) r).1.sign * (raw2c (W i) (W j) r).2.1 ∧ 0 < (raw2c (W i) (W j) r).1.sign * (raw2c (W i) (W j) r).2.2)) ∧ ((raw2c (W i) (W j) r).1.sign * (raw2c (W i) (W j) r).2.1) * (cd2 W r i j).2.2.2 = ck (cd2 W r i j).2.2.1 0 * ((raw2c (W i) (W j) r).1.sign * (raw2c (W i) (W j) r).1) ∧ ((raw2c (W i) (W j) r).1.sign * (raw2c (W i) (W j) r).2.2) * (cd2 W r i j).2.2.2 = ck (cd2 W r i j).2.2.1 1 * ((raw2c (W i) (W j) r).1.sign * (raw2c (W i) (W j) r).1) := by
  obtain ⟨l0, l1, e1, e2⟩ := raw2_pr hz hd
  have s1 := pr_sign l0 l1 e1
  have s2 := pr_sign l0 l1 e2
  have ec : cd2 W r i j = (2, (i, j, 0), ((raw2 (W i) (W j) r).1.sign * (raw2 (W i) (W j) r).2.1, (raw2 (W i) (W j) r).1.sign * (raw2 (W i) (W j) r).2.2, 0), (raw2 (W i) (W j) r).1.sign * (raw2 (W i) (W j) r).1) := by
    unfold cd2; rw [stn_sg l0, stn_sg l0, stn_sg l0]
  unfold ok2
  rw [ec]
  dsimp only
  refine ⟨?_, s1.1, s2.1⟩
  rw [s1.2, s2.2]
  exact ⟨fun z => z.2.2, fun z => ⟨hz, hd, z⟩⟩
theorem ok3_iff {W : Nat → V3} {r : V3} {i j k : Nat} : ok3 W r i j k ↔ (0 < (det3 (W i) (W j) (W k)).sign * det3 r (W j) (W k) ∧ 0 < (det3 (W i) (W j) (W k)).sign * det3 (W i) r (W k) ∧ 0 < (det3 (W i) (W j) (W k)).sign * det3 (W i) (W j) r) := by
  unfold ok3 cd3
  dsimp only
  constructor
  · rintro ⟨h0, h1, h2, h3⟩
    rw [stn_sg h0] at h1 h2 h3
    exact ⟨h1, h2, h3⟩
  · rintro ⟨h1, h2, h3⟩
    have h0 : det3 (W i) (W j) (W k) ≠ 0 := by intro z; rw [z] at h1; simp at h1
    rw [stn_sg h0, stn_sg h0, stn_sg h0]
    exact ⟨h0, h1, h2, h3⟩
