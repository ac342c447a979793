/-! a9: what is firm has six that are, second half -/
theorem par_par {y u w : V3} (hy : y ≠ (0, 0, 0)) (h1 : crs y u = (0, 0, 0)) (h2 : crs y w = (0, 0, 0)) : crs u w = (0, 0, 0) := by
  obtain ⟨u1, u2, u3⟩ := y
  obtain ⟨v1, v2, v3⟩ := u
  obtain ⟨w1, w2, w3⟩ := w
  unfold crs at h1 h2 ⊢
  dsimp only at h1 h2 ⊢
  injection h1 with a1 a2
  injection a2 with a2 a3
  injection h2 with b1 b2
  injection b2 with b2 b3
  have can : ∀ t s : Int, t ≠ 0 → t * s = 0 → s = 0 := fun t s ht hs => (Int.mul_eq_zero.mp hs).resolve_left ht
  have un : u1 ≠ 0 ∨ u2 ≠ 0 ∨ u3 ≠ 0 := by
    apply Classical.byContradiction
    intro y
    apply hy
    rw [show u1 = 0 by omega, show u2 = 0 by omega, show u3 = 0 by omega]
  rcases un with hu | hu | hu
  · rw [can u1 (v2 * w3 - v3 * w2) hu (by grind), can u1 (v3 * w1 - v1 * w3) hu (by grind), can u1 (v1 * w2 - v2 * w1) hu (by grind)]
  · rw [can u2 (v2 * w3 - v3 * w2) hu (by grind), can u2 (v3 * w1 - v1 * w3) hu (by grind), can u2 (v1 * w2 - v2 * w1) hu (by grind)]
  · rw [can u3 (v2 * w3 - v3 * w2) hu (by grind), can u3 (v3 * w1 - v1 * w3) hu (by grind), can u3 (v1 * w2 - v2 * w1) hu (by grind)]
theorem crs_nl {a b : V3} (h : crs a b ≠ (0, 0, 0)) : a ≠ (0, 0, 0) ∧ b ≠ (0, 0, 0) := by
  constructor
  · intro z
    apply h
    rw [z]
    unfold crs
    dsimp only
    simp
  · intro z
    apply h
    rw [z]
    unfold crs
    dsimp only
    simp
theorem crs_p (a b : V3) : dot (crs a b) a = 0 ∧ dot (crs a b) b = 0 := by
  unfold dot crs; dsimp only
  exact ⟨by grind, by grind⟩
theorem lin_z {a b : Int} {y d : V3} (ha : a ≠ 0) (hc : crs y d ≠ (0, 0, 0)) : lin a y b d ≠ (0, 0, 0) := by
  intro z
  apply hc
  obtain ⟨y1, y2, y3⟩ := y
  obtain ⟨d1, d2, d3⟩ := d
  unfold lin at z
  injection z with z1 z2
  injection z2 with z2 z3
  dsimp only at z1 z2 z3
  unfold crs
  dsimp only
  have can : ∀ s : Int, a * s = 0 → s = 0 := fun s hs => (Int.mul_eq_zero.mp hs).resolve_left ha
  rw [can (y2 * d3 - y3 * d2) (by grind), can (y3 * d1 - y1 * d3) (by grind), can (y1 * d2 - y2 * d1) (by grind)]
section Six
variable {W : Nat → V3} {n : Nat}
theorem r3_perp {s : Nat} (h : R3 W n s) {u : V3} (hu : u ≠ (0, 0, 0)) : ∃ q, q < n ∧ dot u (W q) ≠ 0 := by
  obtain ⟨i, j, k, -, hi, hj, hk, -, hd⟩ := h
  apply Classical.byContradiction
  intro z
  have z' : ∀ q, q < n → dot (W q) u = 0 := fun q hq => by
    rw [dot_com]
    exact Classical.byContradiction (fun w => z ⟨q, hq, w⟩)
  exact hu (det_z hd (z' i hi.1) (z' j hj.1) (z' k hk.1))
theorem firm_ps (h : firm W n (fullS n)) {y : V3} (hy : y ≠ (0, 0, 0)) : ∃ q, q < n ∧ 0 < dot y (W q) := by
  apply Classical.byContradiction
  intro hno
  have hC : ∀ q, q < n → dot y (W q) ≤ 0 := fun q hq => by
    apply Classical.byContradiction
    intro z
    exact hno ⟨q, hq, by omega⟩
  have hR := h.1
  have hR' := hR
  obtain ⟨i, j, k, -, hi, hj, hk, hc, hd⟩ := hR'
  have st1 : ∃ y1 : V3, y1 ≠ (0, 0, 0) ∧ (∀ q, q < n → dot y1 (W q) ≤ 0) ∧ ∃ a, a < n ∧ W a ≠ (0, 0, 0) ∧ dot y1 (W a) = 0 := by
    have pick : ∃ i0, i0 < n ∧ crs y (W i0) ≠ (0, 0, 0) := by
      by_cases q : crs y (W i) = (0, 0, 0)
      · by_cases q2 : crs y (W j) = (0, 0, 0)
        · exact absurd (par_par hy q q2) hc
        · exact ⟨j, hj.1, q2⟩
      · exact ⟨i, hi.1, q⟩
    obtain ⟨i0, hi0, hci⟩ := pick
    obtain ⟨a, ha, da, hq⟩ := pushC hC ⟨i0, hi0, sq_pos (crs_nl hci).2⟩
    refine ⟨_, lin_z (by omega) hci, hq, a, ha, fun z => ?_, ?_⟩
    · rw [z, dot_com, dot_0] at da; omega
    · rw [lin_dot, Int.neg_mul, Int.mul_comm]; omega
  obtain ⟨y1, hy1, hC1, a, ha, wa, ta⟩ := st1
  have dz : crs y1 (W a) ≠ (0, 0, 0) := by
    intro z
    have e := par_dot z y1 (W a)
    rw [ta, Int.mul_zero] at e
    have := Int.mul_pos (sq_pos hy1) (sq_pos wa)
    omega
  have pick : ∃ d : V3, dot d (W a) = 0 ∧ dot d y1 = 0 ∧ ∃ q, q < n ∧ 0 < dot d (W q) := by
    obtain ⟨p1, p2⟩ := crs_p y1 (W a)
    obtain ⟨q, hq, q0⟩ := r3_perp hR dz
    by_cases p : 0 < dot (crs y1 (W a)) (W q)
    · exact ⟨_, p2, p1, q, hq, p⟩
    · exact ⟨neg3 (crs y1 (W a)), by rw [dot_ng, p2]; rfl, by rw [dot_ng, p1]; rfl, q, hq, by rw [dot_ng]; omega⟩
  obtain ⟨d, da, dy, hdq⟩ := pick
  obtain ⟨b, hb, db, hC2⟩ := pushC hC1 hdq
  have t1 : dot (lin (dot d (W b)) y1 (-dot y1 (W b)) d) (W a) = 0 := by rw [lin_dot, ta, da]; omega
  have t2 : dot (lin (dot d (W b)) y1 (-dot y1 (W b)) d) (W b) = 0 := by rw [lin_dot, Int.neg_mul, Int.mul_comm]; omega
  have t3 : 0 < dot (lin (dot d (W b)) y1 (-dot y1 (W b)) d) y1 := by
    rw [lin_dot, dy]
    have := Int.mul_pos db (sq_pos hy1)
    omega
  generalize lin (dot d (W b)) y1 (-dot y1 (W b)) d = y2 at *
  have nz : crs (W a) (W b) ≠ (0, 0, 0) := by
    intro z
    have e := par_dot z (W a) d
    rw [dot_com (W a) d, da, Int.mul_zero, dot_com (W b) d] at e
    have := Int.mul_pos (sq_pos wa) db
    omega
  have nz2 : crs (W b) (W a) ≠ (0, 0, 0) := by
    intro z
    apply nz
    rw [crs_sw, z]; rfl
  obtain ⟨k1, hk1, p1⟩ := firm_sd h ha hb nz
  obtain ⟨k2, hk2, p2⟩ := firm_sd h hb ha nz2
  rw [crs_sw, dot_ng] at p2
  obtain ⟨c1, c2⟩ := crs_p (W a) (W b)
  have par := nn_par nz t1 t2 c1 c2
  have e1 := par_dot par (W k1) (W k2)
  have u1 := hC2 k1 hk1
  have u2 := hC2 k2 hk2
  have m1 : 0 ≤ dot y2 (W k1) * dot (crs (W a) (W b)) (W k2) := Int.mul_nonneg_of_nonpos_of_nonpos u1 (by omega)
  have m2 : dot (crs (W a) (W b)) (W k1) * dot y2 (W k2) ≤ 0 := Int.mul_nonpos_of_nonneg_of_nonpos (by omega) u2
  have z1 : dot y2 (W k1) * dot (crs (W a) (W b)) (W k2) = 0 := by omega
  have z2 := (Int.mul_eq_zero.mp z1).resolve_right (by omega)
  have e2 := par_dot par (W k1) y1
  rw [z2, Int.zero_mul] at e2
  have := Int.mul_pos p1 t3
  omega
theorem cnt_or (s k : Nat) : ∀ f, cnt (s ||| 2 ^ k) f ≤ cnt s f + (if k < f then 1 else 0) := by
  intro f
  induction f with
  | zero => exact Nat.zero_le _
  | succ f ih =>
    show cnt (s ||| 2 ^ k) f + (if (s ||| 2 ^ k).testBit f = true then 1 else 0) ≤ cnt s f + (if s.testBit f = true then 1 else 0) + (if k < f + 1 then 1 else 0)
    by_cases e : k = f
    · subst e
      rw [if_neg (Nat.lt_irrefl k)] at ih
      rw [if_pos (Nat.lt_succ_self k)]
      split <;> omega
    · have eb : (s ||| 2 ^ k).testBit f = s.testBit f := by
        rw [or_bit, decide_eq_false e, Bool.or_false]
      rw [eb]
      by_cases q : k < f
      · rw [if_pos q] at ih
        rw [if_pos (show k < f + 1 by omega)]; omega
      · rw [if_neg q] at ih
        rw [if_neg (show ¬ k < f + 1 by omega)]; omega
theorem pct_or (s k : Nat) : pct (s ||| 2 ^ k) ≤ pct s + 1 := by
  have h := cnt_or s k 31
  rw [← cnt_pcn, ← cnt_pcn] at h
  have e : (if k < 31 then 1 else 0) ≤ 1 := by split <;> omega
  show pcn 31 (s ||| 2 ^ k) ≤ pcn 31 s + 1
  omega
theorem or_ltb {s k : Nat} (hs : s < 2 ^ n) (hk : k < n) : s ||| 2 ^ k < 2 ^ n := Nat.or_lt_two_pow hs (Nat.pow_lt_pow_right (by decide) hk)
theorem or_in {s k q : Nat} (h : inS s n q) : inS (s ||| 2 ^ k) n q := ⟨h.1, by rw [or_bit, h.2]; rfl⟩
theorem or_in2 {s k : Nat} (hk : k < n) : inS (s ||| 2 ^ k) n k := ⟨hk, by rw [or_bit, decide_eq_true rfl, Bool.or_true]⟩
theorem cmb_s : ∀ (k : Nat) (L : V3 → Int), cmb k W n L → ∃ s, s < 2 ^ n ∧ pct s ≤ k ∧ ∀ y, (∀ i, inS s n i → dot y (W i) ≤ 0) → L y ≤ 0 := by
  intro k
  induction k with
  | zero => intro L h; exact ⟨0, Nat.two_pow_pos n, by decide, fun y _ => by rw [h y]; exact Int.le_refl _⟩
  | succ k ih =>
    intro L h
    rcases h with h | ⟨i, hi, c, hc, h⟩
    · obtain ⟨s, h1, h2, h3⟩ := ih L h
      exact ⟨s, h1, by omega, h3⟩
    · obtain ⟨s, h1, h2, h3⟩ := ih _ h
      have po := pct_or s i
      refine ⟨s ||| 2 ^ i, or_ltb h1 hi, by omega, fun y hy => ?_⟩
      have a := h3 y (fun q hq => hy q (or_in hq))
      have b := hy i (or_in2 hi)
      have := Int.mul_nonpos_of_nonneg_of_nonpos hc b
      omega
theorem firm_4 {s : Nat} (hn : n ≤ 14) (h : firm W n s) : 4 ≤ pct s := by
  obtain ⟨⟨i, j, -, hij, hi, hj, -, hc, -⟩, g⟩ := h
  obtain ⟨⟨k, hk, k0⟩, l, hl, l0⟩ := g i j hij hi hj hc
  obtain ⟨c1, c2⟩ := crs_p (W i) (W j)
  have n1 : k ≠ i := fun z => by rw [z] at k0; omega
  have n2 : k ≠ j := fun z => by rw [z] at k0; omega
  have n3 : l ≠ i := fun z => by rw [z] at l0; omega
  have n4 : l ≠ j := fun z => by rw [z] at l0; omega
  have n5 : k ≠ l := fun z => by rw [z] at k0; omega
  have bd : ∀ x, inS s n x → cnt s x < pct s := by
    intro x hx
    have x1 := hx.1
    have c1 : cnt s (x + 1) = cnt s x + 1 := by show cnt s x + (if s.testBit x = true then 1 else 0) = _; rw [if_pos hx.2]
    have m := cnt_m s (31 - (x + 1)) (x + 1)
    rw [show x + 1 + (31 - (x + 1)) = 31 by omega] at m
    have e : pcn 31 s = pct s := rfl
    rw [cnt_pcn] at e
    omega
  have un : ∀ x y, inS s n x → inS s n y → x ≠ y → cnt s x ≠ cnt s y := fun x y hx hy z e => z (cnt_un hx.2 hy.2 e)
  have b1 := bd i hi; have b2 := bd j hj; have b3 := bd k hk; have b4 := bd l hl
  have u1 := un i j hi hj (by omega)
  have u2 := un k i hk hi n1
  have u3 := un k j hk hj n2
  have u4 := un l i hl hi n3
  have u5 := un l j hl hj n4
  have u6 := un k l hk hl n5
  omega
/-- a firm set has six in it, or fewer, that are firm -/
theorem six (hn : n ≤ 14) (h : firm W n (fullS n)) : ∃ s, s ≤ fullS n ∧ 4 ≤ pct s ∧ pct s ≤ 6 ∧ firm W n s := by
  have hR := h.1
  obtain ⟨i, j, k, hij, hi, hj, hk, hc, hd⟩ := hR
  have eS : ∀ y : V3, dot y (neg3 (lin 1 (lin 1 (W i) 1 (W j)) 1 (W k))) = -(dot y (W i) + dot y (W j) + dot y (W k)) := fun y => by
    rw [dot_com, dot_ng, dot_com, dot_lin, dot_lin]; omega
  rcases fark3 W n (neg3 (lin 1 (lin 1 (W i) 1 (W j)) 1 (W k))) with ⟨m, hm, hcm⟩ | ⟨y, hy, hv⟩
  · obtain ⟨s, s1, s2, s3⟩ := cmb_s 3 _ hcm
    have p1 := pct_or s i
    have p2 := pct_or (s ||| 2 ^ i) j
    have p3 := pct_or (s ||| 2 ^ i ||| 2 ^ j) k
    have l3 : s ||| 2 ^ i ||| 2 ^ j ||| 2 ^ k < 2 ^ n := or_ltb (or_ltb (or_ltb s1 hi.1) hj.1) hk.1
    have ii : inS (s ||| 2 ^ i ||| 2 ^ j ||| 2 ^ k) n i := or_in (or_in (or_in2 hi.1))
    have ij : inS (s ||| 2 ^ i ||| 2 ^ j ||| 2 ^ k) n j := or_in (or_in2 hj.1)
    have ik : inS (s ||| 2 ^ i ||| 2 ^ j ||| 2 ^ k) n k := or_in2 hk.1
    have sub : ∀ q, inS s n q → inS (s ||| 2 ^ i ||| 2 ^ j ||| 2 ^ k) n q := fun q hq => or_in (or_in (or_in hq))
    have pc : pct (s ||| 2 ^ i ||| 2 ^ j ||| 2 ^ k) ≤ 6 := by omega
    generalize s ||| 2 ^ i ||| 2 ^ j ||| 2 ^ k = S at *
    have ps : ∀ y : V3, y ≠ (0, 0, 0) → ∃ q, inS S n q ∧ 0 < dot y (W q) := by
      intro y hy
      apply Classical.byContradiction
      intro z
      have z' : ∀ q, inS S n q → dot y (W q) ≤ 0 := fun q hq => by
        apply Classical.byContradiction
        intro w
        exact z ⟨q, hq, by omega⟩
      have a := s3 y (fun q hq => z' q (sub q hq))
      rw [eS] at a
      have b : -(dot y (W i) + dot y (W j) + dot y (W k)) ≤ 0 := by
        apply Classical.byContradiction
        intro w
        have := Int.mul_pos hm (show 0 < -(dot y (W i) + dot y (W j) + dot y (W k)) by omega)
        omega
      have z1 := z' i ii; have z2 := z' j ij; have z3 := z' k ik
      refine hy (det_z hd ?_ ?_ ?_)
      · rw [dot_com]; omega
      · rw [dot_com]; omega
      · rw [dot_com]; omega
    have hf : firm W n S := by
      refine ⟨⟨i, j, k, hij, ii, ij, ik, hc, hd⟩, fun a b _ _ _ hz => ⟨ps _ hz, ?_⟩⟩
      have hz2 : neg3 (crs (W a) (W b)) ≠ (0, 0, 0) := by
        intro z
        apply hz
        rw [← crs_sw] at z
        rw [crs_sw, z]; rfl
      obtain ⟨q, q1, q2⟩ := ps _ hz2
      rw [dot_ng] at q2
      exact ⟨q, q1, by omega⟩
    exact ⟨S, by unfold fullS; omega, firm_4 hn hf, pc, hf⟩
  · exfalso
    have hz : y ≠ (0, 0, 0) := fun z => by rw [z, dot_0] at hv; omega
    obtain ⟨q, hq, q0⟩ := firm_ps h hz
    have := hy q hq
    omega
end Six
