/-! 9z: the push across a line: the class's is the reference's -/
theorem acr_1 {W : Nat → V3} {n : Nat} {r : Int} (hr : r ≠ 2) (hp : ∀ k, k < n → crs (W 0) (W k) = (0, 0, 0)) (hz : ∀ k, k < n → ¬ ((W k).1 = 0 ∧ (W k).2.1 = 0)) : acrA W n r = lnA W n := by
  unfold acrA lnA
  by_cases q : n = 0 ∨ (W 0).1 = 0
  · rw [if_pos q]
    refine ic_t (fun k hk => ?_)
    rcases q with q | q
    · omega
    · have y0 : (W 0).2.1 ≠ 0 := fun z => hz 0 (by omega) ⟨q, z⟩
      have e := hp k hk
      unfold crs at e
      injection e with e1 e2
      injection e2 with e2 e3
      rw [q, Int.zero_mul] at e3
      exact (Int.mul_eq_zero.mp (show (W 0).2.1 * (W k).1 = 0 by omega)).resolve_left y0
  · rw [if_neg q, ic_f (fun z => q (Or.inr (z 0 (by omega)))), if_neg hr]
