/-! 9r: no more pushes that free than wrenches -/
theorem pig : ∀ (n m : Nat) (f : Nat → Nat), (∀ i, i < m → f i < n) → (∀ i j, i < j → j < m → f i ≠ f j) → m ≤ n := by
  intro n
  induction n with
  | zero =>
    intro m f h1 h2
    apply Classical.byContradiction
    intro q
    exact absurd (h1 0 (by omega)) (Nat.not_lt_zero _)
  | succ n ih =>
    intro m f h1 h2
    by_cases q : ∃ i, i < m ∧ f i = n
    · obtain ⟨k, hk, ek⟩ := q
      have := ih (m - 1) (fun i => if i < k then f i else f (i + 1)) (fun i hi => ?_) (fun i j hij hj => ?_)
      · omega
      · show _
        by_cases z : i < k
        · rw [if_pos z]
          have a := h1 i (by omega); have b := h2 i k z hk
          omega
        · rw [if_neg z]
          have a := h1 (i + 1) (by omega); have b := h2 k (i + 1) (by omega) (by omega)
          omega
      · show _
        by_cases z : i < k
        · rw [if_pos z]
          by_cases y : j < k
          · rw [if_pos y]; exact h2 i j hij (by omega)
          · rw [if_neg y]; exact h2 i (j + 1) (by omega) (by omega)
        · rw [if_neg z, if_neg (by omega)]; exact h2 (i + 1) (j + 1) (by omega) (by omega)
    · have := ih m f (fun i hi => ?_) h2
      · omega
      · have a := h1 i hi
        have b : f i ≠ n := fun z => q ⟨i, hi, z⟩
        omega
theorem gcd3_mul (c : Int) (p : V3) : gcd3 (c * p.1, c * p.2.1, c * p.2.2) = c.natAbs * gcd3 p := by
  unfold gcd3
  dsimp only
  rw [Int.gcd_mul_left]
  show Nat.gcd ((c.natAbs * Int.gcd p.1 p.2.1 : Nat) : Int).natAbs (c * p.2.2).natAbs = c.natAbs * Nat.gcd ((Int.gcd p.1 p.2.1 : Nat) : Int).natAbs p.2.2.natAbs
  rw [Int.natAbs_natCast, Int.natAbs_natCast, Int.natAbs_mul, Nat.gcd_mul_left]
theorem gcd3_low {p : V3} (hz : p ≠ (0, 0, 0)) : gcd3 (low3 p) = 1 := by
  obtain ⟨g0, e1, e2, e3⟩ := low_g hz
  have e : p = ((gcd3 p : Int) * (low3 p).1, (gcd3 p : Int) * (low3 p).2.1, (gcd3 p : Int) * (low3 p).2.2) := by
    rw [Int.mul_comm, ← e1, Int.mul_comm, ← e2, Int.mul_comm, ← e3]
  have k := gcd3_mul (gcd3 p) (low3 p)
  rw [← e, Int.natAbs_natCast] at k
  have : gcd3 p * 1 = gcd3 p * gcd3 (low3 p) := by omega
  exact (Nat.eq_of_mul_eq_mul_left (by omega) this).symm
theorem gcd3_neg (p : V3) : gcd3 (neg3 p) = gcd3 p := by
  have := gcd3_mul (-1) p
  unfold neg3
  rw [Int.neg_one_mul, Int.neg_one_mul, Int.neg_one_mul] at this
  rw [this]
  exact Nat.one_mul _
/-- rows in lowest terms on one line are the same or opposite -/
theorem par_un {p q : V3} (hp : gcd3 p = 1) (hq : gcd3 q = 1) (h : crs p q = (0, 0, 0)) : p = q ∨ p = neg3 q := by
  obtain ⟨a, b, c⟩ := p
  obtain ⟨x, y, z⟩ := q
  unfold crs at h
  injection h with h1 h2
  injection h2 with h2 h3
  dsimp only at h1 h2 h3
  have k : ∀ u v : Int, u * x = v * a → u * y = v * b → u * z = v * c → u.natAbs = v.natAbs := by
    intro u v e1 e2 e3
    have g1 := gcd3_mul u (x, y, z)
    have g2 := gcd3_mul v (a, b, c)
    dsimp only at g1 g2
    rw [e1, e2, e3, g2, hp, hq] at g1; omega
  have ka := k a x (by grind) (by grind) (by grind)
  have kb := k b y (by grind) (by grind) (by grind)
  have kc := k c z (by grind) (by grind) (by grind)
  unfold neg3
  dsimp only
  have can : ∀ u v w : Int, u ≠ 0 → u * v = u * w → v = w := fun u v w z e => Int.eq_of_mul_eq_mul_left z e
  by_cases qx : x = 0
  · have a0 : a = 0 := by omega
    by_cases qy : y = 0
    · have b0 : b = 0 := by omega
      rcases (by omega : c = z ∨ c = -z) with e | e
      · left; rw [a0, b0, e, qx, qy]
      · right; rw [a0, b0, e, qx, qy]; rfl
    · rcases (by omega : b = y ∨ b = -y) with e | e
      · have : c = z := can y _ _ qy (by rw [e] at h1; rw [Int.mul_comm y c]; omega)
        left; rw [a0, e, this, qx]
      · have : c = -z := can y _ _ qy (by rw [e, Int.neg_mul] at h1; rw [Int.mul_comm y c, Int.mul_neg]; omega)
        right; rw [a0, e, this, qx]; rfl
  · rcases (by omega : a = x ∨ a = -x) with e | e
    · have e2 : b = y := can x _ _ qx (by rw [e] at h3; rw [Int.mul_comm x b]; omega)
      have e3 : c = z := can x _ _ qx (by rw [e] at h2; rw [Int.mul_comm x c]; omega)
      left; rw [e, e2, e3]
    · have e2 : b = -y := can x _ _ qx (by rw [e, Int.neg_mul] at h3; rw [Int.mul_comm x b, Int.mul_neg]; omega)
      have e3 : c = -z := can x _ _ qx (by rw [e, Int.neg_mul] at h2; rw [Int.mul_comm x c, Int.mul_neg]; omega)
      right; rw [e, e2, e3]
/-- p frees, and is made by a couple whose second is b -/
def ori (W : Nat → V3) (n : Nat) (p : V3) (b : Nat) : Prop := b < n ∧ noM W n p ∧ gcd3 p = 1 ∧ ∃ a, a < n ∧ ∃ c : Int, 0 < c ∧ crs (W a) (W b) = (c * p.1, c * p.2.1, c * p.2.2)
theorem crs_sw (a b : V3) : crs b a = neg3 (crs a b) := by
  unfold crs neg3; dsimp only
  congr 1
  · grind
  · congr 1 <;> grind
theorem ori_un {W : Nat → V3} {n b : Nat} {p q : V3} (hp : ori W n p b) (hq : ori W n q b) (hR : ∃ k, k < n ∧ dot p (W k) ≠ 0) : p = q := by
  obtain ⟨hb, np, gp, a, ha, c, c0, ec⟩ := hp
  obtain ⟨-, nq, gq, d, hd, e, e0, ee⟩ := hq
  have i1 := np d hd
  have i2 := nq a ha
  have ib := np b hb
  revert ec ee i1 i2 ib
  generalize W a = u
  generalize W b = v
  generalize hw : W d = w
  intro ec ee i1 i2 ib
  unfold crs at ec ee
  injection ec with c1 c2
  injection c2 with c2 c3
  injection ee with e1 e2
  injection e2 with e2 e3
  have dv : c * dot p v = 0 := by unfold dot; grind
  have d1 : c * dot p w = -(e * dot q u) := by unfold dot; grind
  have n1 : c * dot p w ≤ 0 := Int.mul_nonpos_of_nonneg_of_nonpos (Int.le_of_lt c0) i1
  have n2 : e * dot q u ≤ 0 := Int.mul_nonpos_of_nonneg_of_nonpos (Int.le_of_lt e0) i2
  have z1 : dot p w = 0 := (Int.mul_eq_zero.mp (show c * dot p w = 0 by omega)).resolve_left (by omega)
  have z2 : dot p v = 0 := (Int.mul_eq_zero.mp dv).resolve_left (by omega)
  have cz : ∀ t : Int, e * t = 0 → t = 0 := fun t ht => (Int.mul_eq_zero.mp ht).resolve_left (by omega)
  have x0 : crs p q = (0, 0, 0) := by
    unfold dot at z1 z2
    unfold crs
    rw [cz (p.2.1 * q.2.2 - p.2.2 * q.2.1) (by grind), cz (p.2.2 * q.1 - p.1 * q.2.2) (by grind), cz (p.1 * q.2.1 - p.2.1 * q.1) (by grind)]
  rcases par_un gp gq x0 with z | z
  · exact z
  · obtain ⟨k, hk, k0⟩ := hR
    have j1 := np k hk
    have j2 := nq k hk
    have : dot p (W k) = -dot q (W k) := by rw [z]; unfold dot neg3; grind
    omega
theorem frP_ori {W : Nat → V3} {n i j : Nat} {p : V3} (hi : i < n) (hj : j < n) (h : frP W n i j = some p) : ∃ b, ori W n p b := by
  unfold frP at h
  by_cases q : crs (W i) (W j) = (0, 0, 0)
  · rw [ic_t q] at h; cases h
  · rw [ic_f q] at h
    obtain ⟨g0, e1, e2, e3⟩ := low_g q
    by_cases q2 : noM W n (low3 (crs (W i) (W j)))
    · rw [ic_t q2] at h; cases h
      refine ⟨j, hj, q2, gcd3_low q, i, hi, gcd3 (crs (W i) (W j)), g0, ?_⟩
      rw [Int.mul_comm, ← e1, Int.mul_comm, ← e2, Int.mul_comm, ← e3]
    · rw [ic_f q2] at h
      by_cases q3 : noM W n (neg3 (low3 (crs (W i) (W j))))
      · rw [ic_t q3] at h; cases h
        refine ⟨i, hi, q3, by rw [gcd3_neg]; exact gcd3_low q, j, hj, gcd3 (crs (W i) (W j)), g0, ?_⟩
        rw [crs_sw]
        unfold neg3
        dsimp only
        rw [Int.mul_neg, Int.mul_neg, Int.mul_neg, Int.mul_comm, ← e1, Int.mul_comm, ← e2, Int.mul_comm, ← e3]
      · rw [ic_f q3] at h; cases h
theorem R3_dot {W : Nat → V3} {n s : Nat} (h : R3 W n s) {p : V3} (hp : gcd3 p = 1) : ∃ k, k < n ∧ dot p (W k) ≠ 0 := by
  obtain ⟨i, j, k, -, hi, hj, hk, -, d⟩ := h
  apply Classical.byContradiction
  intro q
  have z : ∀ k, k < n → dot p (W k) = 0 := fun k hk => Classical.byContradiction (fun y => q ⟨k, hk, y⟩)
  have z1 := z i hi.1
  have z2 := z j hj.1
  have z3 := z k hk.1
  revert d z1 z2 z3
  generalize W i = u
  generalize W j = v
  generalize W k = w
  intro d z1 z2 z3
  have cz : ∀ t : Int, dot (crs u v) w * t = 0 → t = 0 := fun t ht => (Int.mul_eq_zero.mp ht).resolve_left d
  have x1 : p.1 = 0 := cz _ (by unfold dot crs; unfold dot at z1 z2 z3; dsimp only; grind)
  have x2 : p.2.1 = 0 := cz _ (by unfold dot crs; unfold dot at z1 z2 z3; dsimp only; grind)
  have x3 : p.2.2 = 0 := cz _ (by unfold dot crs; unfold dot at z1 z2 z3; dsimp only; grind)
  unfold gcd3 at hp
  rw [x1, x2, x3] at hp
  exact absurd hp (by decide)
theorem vlt_ir (a : V3) : ¬ vlt a a := by unfold vlt; omega
theorem vlt_tr {a b c : V3} (h : vlt a b) (g : vlt b c) : vlt a c := by unfold vlt at *; omega
theorem vlt_tot {a b : V3} (h : ¬ vlt a b) (g : a ≠ b) : vlt b a := by
  obtain ⟨x, y, z⟩ := a
  obtain ⟨u, v, w⟩ := b
  have k : ¬ (x = u ∧ y = v ∧ z = w) := fun e => g (by rw [e.1, e.2.1, e.2.2])
  unfold vlt at *
  dsimp only at *
  omega
/-- rising, and each is made by a couple -/
def SM (W : Nat → V3) (n : Nat) (s : Fr) : Prop := (∀ i j, i < j → j < s.1 → vlt (s.2 i) (s.2 j)) ∧ ∀ k, k < s.1 → ∃ b, ori W n (s.2 k) b
theorem SM.few {W : Nat → V3} {n t : Nat} {s : Fr} (h : SM W n s) (hR : R3 W n t) : s.1 ≤ n := by
  obtain ⟨h1, h2⟩ := h
  have key : ∀ k, ∃ b, k < s.1 → ori W n (s.2 k) b := by
    intro k
    by_cases q : k < s.1
    · obtain ⟨b, hb⟩ := h2 k q
      exact ⟨b, fun _ => hb⟩
    · exact ⟨0, fun z => absurd z q⟩
  refine pig n s.1 (fun k => Classical.choose (key k)) (fun i hi => (Classical.choose_spec (key i) hi).1) (fun i j hij hj e => ?_)
  have o1 := Classical.choose_spec (key i) (by omega)
  have o2 := Classical.choose_spec (key j) hj
  rw [← show Classical.choose (key i) = Classical.choose (key j) from e] at o2
  have e2 := ori_un o1 o2 (R3_dot hR o1.2.2.1)
  have v := h1 i j hij hj
  rw [e2] at v
  exact vlt_ir _ v
theorem atF_s (s : Fr) (p : V3) : (∀ i, i < atF s p → vlt (s.2 i) p) ∧ (atF s p < s.1 → ¬ vlt (s.2 (atF s p)) p) := by
  unfold atF
  have : ∀ (d i : Nat), i + d = s.1 → (∀ j, j < i → vlt (s.2 j) p) → (∀ j, j < fst (fun i => ¬ vlt (s.2 i) p) id s.1 i d → vlt (s.2 j) p) ∧ (fst (fun i => ¬ vlt (s.2 i) p) id s.1 i d < s.1 → ¬ vlt (s.2 (fst (fun i => ¬ vlt (s.2 i) p) id s.1 i d)) p) := by
    intro d
    induction d with
    | zero =>
      intro i hi hj
      have e : fst (fun i => ¬ vlt (s.2 i) p) id s.1 i 0 = s.1 := rfl
      rw [e]
      exact ⟨fun j h => hj j (by omega), fun h => absurd h (Nat.lt_irrefl _)⟩
    | succ d ih =>
      intro i hi hj
      by_cases q : ¬ vlt (s.2 i) p
      · rw [fst_t q]
        exact ⟨hj, fun _ => q⟩
      · rw [fst_f q]
        refine ih (i + 1) (by omega) (fun j h => ?_)
        by_cases e : j = i
        · rw [e]; exact Classical.not_not.mp q
        · exact hj j (by omega)
  exact this s.1 0 (by omega) (fun j h => absurd h (Nat.not_lt_zero j))
theorem SM.ins {W : Nat → V3} {n : Nat} {s : Fr} {p : V3} (h : SM W n s) (hp : ∃ b, ori W n p b) : SM W n (insF s p) := by
  unfold insF
  obtain ⟨a1, a2⟩ := atF_s s p
  have al := atF_le s p
  by_cases q : atF s p < s.1 ∧ s.2 (atF s p) = p
  · rw [ic_t q]; exact h
  · rw [ic_f q]
    obtain ⟨h1, h2⟩ := h
    generalize atF s p = a at *
    have af : ∀ k, a ≤ k → k < s.1 → vlt p (s.2 k) := by
      intro k hk hs
      have b := vlt_tot (a2 (by omega)) (fun e => q ⟨by omega, e⟩)
      by_cases e : k = a
      · rw [e]; exact b
      · exact vlt_tr b (h1 a k (by omega) hs)
    refine ⟨fun i j hij hj => ?_, fun k hk => ?_⟩
    · have hj' : j < s.1 + 1 := hj
      show vlt (if i < a then s.2 i else if i = a then p else s.2 (i - 1)) (if j < a then s.2 j else if j = a then p else s.2 (j - 1))
      by_cases c1 : j < a
      · rw [if_pos c1, if_pos (by omega)]; exact h1 i j hij (by omega)
      · rw [if_neg c1]
        by_cases c2 : j = a
        · rw [if_pos c2, if_pos (by omega)]; exact a1 i (by omega)
        · rw [if_neg c2]
          by_cases c3 : i < a
          · rw [if_pos c3]; exact h1 i (j - 1) (by omega) (by omega)
          · rw [if_neg c3]
            by_cases c4 : i = a
            · rw [if_pos c4]; exact af (j - 1) (by omega) (by omega)
            · rw [if_neg c4]; exact h1 (i - 1) (j - 1) (by omega) (by omega)
    · have hk' : k < s.1 + 1 := hk
      show ∃ b, ori W n (if k < a then s.2 k else if k = a then p else s.2 (k - 1)) b
      split
      · exact h2 k (by omega)
      · split
        · exact hp
        · exact h2 (k - 1) (by omega)
