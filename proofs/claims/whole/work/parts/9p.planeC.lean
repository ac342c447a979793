/-! 9p: the push across a plane, across a line: class -/
theorem low_g {p : V3} (hz : p ≠ (0, 0, 0)) : 0 < (gcd3 p : Int) ∧ p.1 = (low3 p).1 * gcd3 p ∧ p.2.1 = (low3 p).2.1 * gcd3 p ∧ p.2.2 = (low3 p).2.2 * gcd3 p := by
  have g0 : gcd3 p ≠ 0 := fun z => hz (gcd3_0 z)
  have e : low3 p = (p.1.tdiv (gcd3 p), p.2.1.tdiv (gcd3 p), p.2.2.tdiv (gcd3 p)) := if_neg g0
  have d0 : (gcd3 p : Int) ∣ ((Int.gcd p.1 p.2.1 : Nat) : Int) := Int.gcd_dvd_left ..
  have d3 : (gcd3 p : Int) ∣ p.2.2 := Int.gcd_dvd_right ..
  have d1 : (gcd3 p : Int) ∣ p.1 := Int.dvd_trans d0 (Int.gcd_dvd_left ..)
  have d2 : (gcd3 p : Int) ∣ p.2.1 := Int.dvd_trans d0 (Int.gcd_dvd_right ..)
  rw [e]
  exact ⟨by omega, (Int.tdiv_mul_cancel d1).symm, (Int.tdiv_mul_cancel d2).symm, (Int.tdiv_mul_cancel d3).symm⟩
theorem lst_low {p : V3} (hz : p ≠ (0, 0, 0)) : lst p = lst (low3 p) * gcd3 p ∧ lst p ≠ 0 := by
  obtain ⟨g0, e1, e2, e3⟩ := low_g hz
  have z0 : ∀ {a b : Int}, a = b * gcd3 p → (a = 0 ↔ b = 0) := by
    intro a b hab
    constructor
    · intro q; rw [q] at hab; exact (Int.mul_eq_zero.mp hab.symm).resolve_right (by omega)
    · intro q; rw [hab, q, Int.zero_mul]
  have k3 := z0 e3; have k2 := z0 e2
  unfold lst
  by_cases q3 : p.2.2 = 0
  · by_cases q2 : p.2.1 = 0
    · rw [if_pos q3, if_pos q2, if_pos (k3.mp q3), if_pos (k2.mp q2)]
      refine ⟨e1, fun q1 => hz ?_⟩
      obtain ⟨a, b, c⟩ := p
      dsimp only at q1 q2 q3
      rw [q1, q2, q3]
    · rw [if_pos q3, if_neg q2, if_pos (k3.mp q3), if_neg (fun z => q2 (k2.mpr z))]
      exact ⟨e2, q2⟩
  · rw [if_neg q3, if_neg (fun z => q3 (k3.mpr z))]
    exact ⟨e3, q3⟩
theorem sgn_low {p : V3} (hz : p ≠ (0, 0, 0)) : ((lst p).sign = 1 ∨ (lst p).sign = -1) ∧ sgv (lst p).sign (low3 p) = sgn3 (low3 p) := by
  obtain ⟨l1, l2⟩ := lst_low hz
  obtain ⟨g0, -⟩ := low_g hz
  have e : sgn3 (low3 p) = if lst (low3 p) < 0 then neg3 (low3 p) else low3 p := rfl
  rw [e]
  by_cases q : lst (low3 p) < 0
  · have : lst p < 0 := by rw [l1]; exact Int.mul_neg_of_neg_of_pos q g0
    rw [Int.sign_eq_neg_one_of_neg this, if_pos q]
    exact ⟨Or.inr rfl, if_neg (by decide)⟩
  · have h0 : 0 ≤ lst p := by rw [l1]; exact Int.mul_nonneg (by omega) (Int.le_of_lt g0)
    have : 0 < lst p := by omega
    rw [Int.sign_eq_one_of_pos this, if_neg q]
    exact ⟨Or.inl rfl, if_pos rfl⟩
section PlaneC
variable {E : gj_E} {SI : gj_I} {SJ : gj_J} {F : Nat → Int} {W : Nat → V3} {n : Nat}
theorem LJca_x {A B : gj_J} (z : FJ LJca A B) : FJ LJcx A B := z.le (fun o k y => by unfold LJca at y; unfold LJcx; omega)
theorem cr_stay : ∀ (d i : Nat) (x : V3), forN (crF W n) i d (some x) = some x := by
  intro d
  induction d with
  | zero => intro i x; rfl
  | succ d ih =>
    intro i x
    show forN (crF W n) (i + 1) d (crF W n i (some x)) = some x
    have e : crF W n i (some x) = some x := oth_stay _ _
    rw [e]; exact ih (i + 1) x
theorem sp_seekPlane {Q : gj_I → gj_J → Prop} (hL : SI 42 9 = i3 n) (hC : PB42 W n SI SJ) (hn : n ≤ 14) (hB : Wb W n) (p : V3) (hp : crAny W n = some p) (h : ∀ SJ', FJ LJcx SJ SJ' → CX (sgn3 (low3 p)) SJ' → Q SI SJ') : DoV E 46 [(.ref 61), (.ref 42)] SI SJ Q := by
  refine st_46 SI SJ ?_
  have inner : ∀ (i : Nat), i < n → forN (crF W n) i (n - i) none = some p → (forN (crF W n) (i + 1) (n - (i + 1)) none = some p → GoV E mt_46 2 [some (.ref 61), some (.ref 42), some (.int (i3 ((i + 1 : Nat) : Int))), none, none] SI SJ Q) → GoV E mt_46 14 [some (.ref 61), some (.ref 42), some (.int (i3 (i : Nat))), some (.int (i3 ((i + 1 : Nat) : Int))), none] SI SJ Q := by
    intro i hi heq hc
    have e0 : forN (crF W n) i (n - i) none = forN (crF W n) (i + 1) (n - (i + 1)) (crF W n i none) := by
      rw [show n - i = (n - (i + 1)) + 1 by omega]; rfl
    rw [e0] at heq
    have lp : ∀ (d j : Nat), j + d = n → i < j → crF W n i none = forN (fun j o => oth o (ic (crs (W i) (W j) = (0, 0, 0)) none (some (crs (W i) (W j))))) j d none → GoV E mt_46 14 [some (.ref 61), some (.ref 42), some (.int (i3 (i : Nat))), some (.int (i3 (j : Nat))), none] SI SJ Q := by
      intro d
      induction d with
      | zero =>
        intro j hj hij e
        refine lp_46_14 _ _ SI SJ ⟨fun _ => ?_, fun c => ?_⟩
        · rw [i3_add]
          refine hc ?_
          have e' : crF W n i none = none := e
          rw [e'] at heq; exact heq
        · rw [hL, i3_le (by omega) (by omega) (by omega) (by omega)] at c; omega
      | succ d ih =>
        intro j hj hij e
        obtain ⟨c1, c2, c3, -, -⟩ := hC i j hij (by omega) trivial
        have cb := cpl_b hij (show j < 14 by omega)
        have pb := crs_b hB hi (show j < n by omega)
        refine lp_46_14 _ _ SI SJ ⟨fun c => ?_, fun c => sp_couple i j (by omega) rfl rfl (sp_isPlane42 pb (cpl i j) cb c1 c2 c3 rfl ⟨fun q => ?_, fun q => ?_⟩)⟩
        · rw [hL, i3_le (by omega) (by omega) (by omega) (by omega)] at c; omega
        · rw [ibc_0, Classical.not_not] at q
          rw [i3_add]
          refine ih (j + 1) (by omega) (by omega) ?_
          rw [e]
          show forN _ (j + 1) d (oth none (ic (crs (W i) (W j) = (0, 0, 0)) none (some (crs (W i) (W j))))) = _
          rw [ic_t q]; rfl
        · rw [ibc_0, Classical.not_not] at q
          have e2 : crF W n i none = some (crs (W i) (W j)) := by
            rw [e]
            show forN _ (j + 1) d (oth none (ic (crs (W i) (W j) = (0, 0, 0)) none (some (crs (W i) (W j))))) = _
            rw [ic_f q]; exact oth_stay _ _
          rw [e2, cr_stay] at heq
          injection heq with heq
          subst heq
          obtain ⟨s1, s2⟩ := sgn_low q
          refine sp_lastSign pb (cpl i j) cb c1 c2 c3 rfl (sp_lower pb q (cpl i j) cb c1 c2 c3 _ s1 rfl rfl (fun B f1 k1 => ?_))
          rw [s2] at k1
          exact sp_choose k1 (fun B2 f2 k2 _ => h B2 ((LJca_x f1).tr f2) k2)
    exact lp (n - (i + 1)) (i + 1) (by omega) (by omega) rfl
  have outer : ∀ (d i : Nat), i + d = n → forN (crF W n) i (n - i) none = some p → GoV E mt_46 2 [some (.ref 61), some (.ref 42), some (.int (i3 (i : Nat))), none, none] SI SJ Q := by
    intro d
    induction d with
    | zero =>
      intro i hi heq
      rw [show n - i = 0 by omega] at heq
      exact absurd heq (fun z => by injection z)
    | succ d ih =>
      intro i hi heq
      refine lp_46_2 _ SI SJ ⟨fun c => ?_, fun c => ?_⟩
      · rw [hL, i3_le (by omega) (by omega) (by omega) (by omega)] at c; omega
      · rw [i3_add]
        exact inner i (by omega) heq (fun e => ih (i + 1) (by omega) e)
  exact outer n 0 (by omega) (by rw [Nat.sub_zero]; exact hp)
end PlaneC
