/-! 9y: the push across, by rank: the class's is the reference's -/
section Acr
variable {W : Nat → V3} {n : Nat}
theorem crAny_nz {p : V3} (h : crAny W n = some p) : p ≠ (0, 0, 0) ∧ ∃ i j, i < n ∧ j < n ∧ p = crs (W i) (W j) := by
  have P : ∀ o : Option V3, (∀ p, o = some p → p ≠ (0, 0, 0) ∧ ∃ i j, i < n ∧ j < n ∧ p = crs (W i) (W j)) → True := fun _ _ => trivial
  have key := forN_I (f := crF W n) (P := fun _ o => ∀ p, o = some p → p ≠ (0, 0, 0) ∧ ∃ i j, i < n ∧ j < n ∧ p = crs (W i) (W j)) n 0 none (fun i o h1 h2 hI => ?_) (fun p hp => by cases hp)
  · exact key p h
  · have k2 := forN_I (f := fun j o => oth o (ic (crs (W i) (W j) = (0, 0, 0)) none (some (crs (W i) (W j))))) (P := fun _ o => ∀ p, o = some p → p ≠ (0, 0, 0) ∧ ∃ i j, i < n ∧ j < n ∧ p = crs (W i) (W j)) (n - (i + 1)) (i + 1) o (fun j o h3 h4 hI2 => ?_) hI
    · exact k2
    · intro p hp
      cases o with
      | some x => exact hI2 p hp
      | none =>
        by_cases q : crs (W i) (W j) = (0, 0, 0)
        · rw [ic_t q] at hp; cases hp
        · rw [ic_f q] at hp
          have e : some (crs (W i) (W j)) = some p := hp
          injection e with e
          subst e
          exact ⟨q, i, j, by omega, by omega, rfl⟩
theorem low_x {x : Int} (hx : x ≠ 0) : sgn3 (low3 (x, 0, 0)) = (1, 0, 0) := by
  have hz : ((x, 0, 0) : V3) ≠ (0, 0, 0) := fun z => by
    injection z with z1 z2
    exact hx z1
  have g : gcd3 (x, 0, 0) = x.natAbs := by
    show Nat.gcd ((Nat.gcd x.natAbs (0 : Int).natAbs : Nat) : Int).natAbs (0 : Int).natAbs = x.natAbs
    rw [Int.natAbs_zero, Nat.gcd_zero_right, Int.natAbs_natCast, Nat.gcd_zero_right]
  have g0 : gcd3 (x, 0, 0) ≠ 0 := fun z => hz (gcd3_0 z)
  have e : low3 (x, 0, 0) = (x.tdiv (gcd3 (x, 0, 0)), (0 : Int).tdiv (gcd3 (x, 0, 0)), (0 : Int).tdiv (gcd3 (x, 0, 0))) := if_neg g0
  have l : lst (x, 0, 0) = x := by unfold lst; dsimp only; rw [if_pos rfl, if_pos rfl]
  obtain ⟨-, s2⟩ := sgn_low hz
  rw [l] at s2
  rw [← s2, e, g, Int.zero_tdiv]
  unfold sgv
  by_cases q : 0 < x
  · rw [Int.sign_eq_one_of_pos q, if_pos rfl, show (x.natAbs : Int) = x by omega, Int.tdiv_self hx]
  · have q2 : x < 0 := by omega
    rw [Int.sign_eq_neg_one_of_neg q2, if_neg (by decide), show (x.natAbs : Int) = -x by omega, Int.tdiv_neg, Int.tdiv_self hx]
    rfl
/-- rank 2: also where 1 0 0 makes nothing with each -/
theorem acr_2 {p : V3} (h : crAny W n = some p) : acrA W n 2 = sgn3 (low3 p) := by
  obtain ⟨nz, i, j, hi, hj, e⟩ := crAny_nz h
  unfold acrA
  by_cases q : acr0 W n
  · rw [ic_t q]
    have zi := q i hi; have zj := q j hj
    have e2 : p = ((crs (W i) (W j)).1, 0, 0) := by
      rw [e]
      unfold crs
      rw [zi, zj]
      simp
    have x0 : (crs (W i) (W j)).1 ≠ 0 := fun z => nz (by rw [e2, z])
    rw [e2]; exact (low_x x0).symm
  · rw [ic_f q, if_pos rfl, h]; rfl
end Acr
