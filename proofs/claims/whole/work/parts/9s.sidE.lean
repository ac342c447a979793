/-! 9s: what is firm has a side -/
/-- p makes at most c with each, c above 0 -/
def sup (W : Nat → V3) (n : Nat) (p : V3) (c : Int) : Prop := 0 < c ∧ ∀ q, q < n → dot p (W q) ≤ c
theorem mx_ex (f : Nat → Int) : ∀ n, 0 < n → ∃ a, a < n ∧ ∀ q, q < n → f q ≤ f a := by
  intro n
  induction n with
  | zero => intro h; omega
  | succ n ih =>
    intro _
    by_cases z : n = 0
    · subst z
      exact ⟨0, by omega, fun q hq => by rw [show q = 0 by omega]; exact Int.le_refl _⟩
    · obtain ⟨a, h1, h2⟩ := ih (by omega)
      by_cases y : f n ≤ f a
      · refine ⟨a, by omega, fun q hq => ?_⟩
        by_cases e : q = n
        · rw [e]; exact y
        · exact h2 q (by omega)
      · refine ⟨n, by omega, fun q hq => ?_⟩
        by_cases e : q = n
        · rw [e]; exact Int.le_refl _
        · have := h2 q (by omega); omega
/-- among those with d above 0, one with the greatest e / d -/
theorem rt_ex (d e : Nat → Int) : ∀ n, (∃ q, q < n ∧ 0 < d q) → ∃ a, a < n ∧ 0 < d a ∧ ∀ q, q < n → 0 < d q → e q * d a ≤ e a * d q := by
  intro n
  induction n with
  | zero => rintro ⟨q, hq, -⟩; omega
  | succ n ih =>
    intro h
    by_cases y : ∃ q, q < n ∧ 0 < d q
    · obtain ⟨a, h1, h2, h3⟩ := ih y
      by_cases w : 0 < d n ∧ e a * d n < e n * d a
      · refine ⟨n, by omega, w.1, fun q hq hd => ?_⟩
        by_cases g : q = n
        · rw [g]; exact Int.le_refl _
        · have k1 := h3 q (by omega) hd
          have k2 : e q * d a * d n ≤ e a * d q * d n := Int.mul_le_mul_of_nonneg_right k1 (Int.le_of_lt w.1)
          have k3 : e a * d n * d q ≤ e n * d a * d q := Int.mul_le_mul_of_nonneg_right (Int.le_of_lt w.2) (Int.le_of_lt hd)
          have k4 : d a * (e q * d n) ≤ d a * (e n * d q) := by
            calc d a * (e q * d n) = e q * d a * d n := by grind
              _ ≤ e a * d q * d n := k2
              _ = e a * d n * d q := by grind
              _ ≤ e n * d a * d q := k3
              _ = d a * (e n * d q) := by grind
          exact Int.le_of_mul_le_mul_left k4 h2
      · refine ⟨a, by omega, h2, fun q hq hd => ?_⟩
        by_cases g : q = n
        · subst g
          apply Classical.byContradiction
          intro z
          exact w ⟨hd, by omega⟩
        · exact h3 q (by omega) hd
    · obtain ⟨q, hq, hd⟩ := h
      have e1 : q = n := by
        apply Classical.byContradiction
        intro z
        exact y ⟨q, by omega, hd⟩
      subst e1
      refine ⟨q, by omega, hd, fun r hr hdr => ?_⟩
      have e2 : r = q := by
        apply Classical.byContradiction
        intro z
        exact y ⟨r, by omega, hdr⟩
      rw [e2]; exact Int.le_refl _
/-- pushed along d until one more is reached -/
theorem push {W : Nat → V3} {n : Nat} {p d : V3} {c : Int} (h : sup W n p c) (hd : ∃ q, q < n ∧ 0 < dot d (W q)) : ∃ a p' c', a < n ∧ 0 < dot d (W a) ∧ sup W n p' c' ∧ dot p' (W a) = c' ∧ ∀ q, q < n → dot p (W q) = c → dot d (W q) = 0 → dot p' (W q) = c' := by
  obtain ⟨c0, hp⟩ := h
  obtain ⟨a, ha, da, hm⟩ := rt_ex (fun q => dot d (W q)) (fun q => dot p (W q) - c) n hd
  obtain ⟨p', e⟩ : ∃ p' : V3, ∀ w : V3, dot p' w = dot d (W a) * dot p w + (c - dot p (W a)) * dot d w := by
    generalize dot d (W a) = x
    generalize dot p (W a) = y
    refine ⟨(x * p.1 + (c - y) * d.1, x * p.2.1 + (c - y) * d.2.1, x * p.2.2 + (c - y) * d.2.2), fun w => ?_⟩
    unfold dot; dsimp only; grind
  have la := hp a ha
  refine ⟨a, p', dot d (W a) * c, ha, da, ⟨Int.mul_pos da c0, fun q hq => ?_⟩, ?_, fun q hq h1 h2 => ?_⟩
  · rw [e]
    by_cases z : 0 < dot d (W q)
    · have := hm q hq z

      grind
    · have m1 : dot d (W a) * dot p (W q) ≤ dot d (W a) * c := Int.mul_le_mul_of_nonneg_left (hp q hq) (Int.le_of_lt da)
      have m2 : (c - dot p (W a)) * dot d (W q) ≤ 0 := Int.mul_nonpos_of_nonneg_of_nonpos (by omega) (by omega)
      omega
  · rw [e]; grind
  · rw [e, h1, h2]; grind
/-- a plane that touches three which are not in one plane with 0 gives a side -/
theorem sd_some {W : Nat → V3} {n i j k : Nat} {p : V3} {c : Int} (h : sup W n p c) (h1 : dot p (W i) = c) (h2 : dot p (W j) = c) (h3 : dot p (W k) = c) (hdet : dot (crs (W i) (W j)) (W k) ≠ 0) : ∃ v, sdP W n i j k = some v := by
  obtain ⟨c0, hp⟩ := h
  have hN : dot (pn3 (W i) (W j) (W k)) (W i) = dot (crs (W i) (W j)) (W k) := by
    generalize W i = x; generalize W j = y; generalize W k = z
    unfold dot pn3 crs sub3; dsimp only; grind
  have z0 : pn3 (W i) (W j) (W k) ≠ (0, 0, 0) := by
    intro z; rw [z] at hN
    have : dot (0, 0, 0) (W i) = 0 := by unfold dot; dsimp only; omega
    omega
  have par : crs p (pn3 (W i) (W j) (W k)) = (0, 0, 0) := by
    generalize W i = x at *; generalize W j = y at *; generalize W k = z at *
    unfold dot at h1 h2 h3
    unfold pn3 crs sub3; dsimp only
    congr 1
    · grind
    · congr 1 <;> grind
  obtain ⟨g0, e1, e2, e3⟩ := low_g z0
  have dl : ∀ w, dot (pn3 (W i) (W j) (W k)) w = dot (low3 (pn3 (W i) (W j) (W k))) w * gcd3 (pn3 (W i) (W j) (W k)) := by
    intro w
    have u : dot (pn3 (W i) (W j) (W k)) w = (pn3 (W i) (W j) (W k)).1 * w.1 + (pn3 (W i) (W j) (W k)).2.1 * w.2.1 + (pn3 (W i) (W j) (W k)).2.2 * w.2.2 := rfl
    rw [u, e1, e2, e3]
    generalize low3 (pn3 (W i) (W j) (W k)) = l
    unfold dot; grind
  have lz : dot (low3 (pn3 (W i) (W j) (W k))) (W i) ≠ 0 := by
    intro z
    have := dl (W i)
    rw [z, Int.zero_mul, hN] at this; exact hdet this
  have pN : ∀ w, c * dot (pn3 (W i) (W j) (W k)) w = dot p w * dot (pn3 (W i) (W j) (W k)) (W i) := by
    intro w
    rw [← h1]
    revert par
    generalize pn3 (W i) (W j) (W k) = N
    generalize W i = x
    intro par
    unfold crs at par
    injection par with q1 q2
    injection q2 with q2 q3
    unfold dot; grind
  have pl : ∀ w, c * dot (low3 (pn3 (W i) (W j) (W k))) w = dot p w * dot (low3 (pn3 (W i) (W j) (W k))) (W i) := by
    intro w
    have a := pN w
    rw [dl w, dl (W i)] at a
    refine Int.eq_of_mul_eq_mul_right (show (gcd3 (pn3 (W i) (W j) (W k)) : Int) ≠ 0 by omega) ?_
    rw [Int.mul_assoc, Int.mul_assoc]; exact a
  refine ⟨up3 (low3 (pn3 (W i) (W j) (W k))) (W i), ic_f ?_⟩
  revert pl lz
  generalize low3 (pn3 (W i) (W j) (W k)) = l
  intro lz pl
  have ng : ∀ w, dot (neg3 l) w = -dot l w := fun w => by unfold dot neg3; dsimp only; grind
  rintro (q | q | ⟨r, hr, q⟩)
  · exact z0 q
  · unfold up3 at q
    split at q
    · rw [ng] at q; omega
    · exact lz q
  · have hpr := hp r hr
    have a := pl (W r)
    unfold up3 at q
    split at q
    · rename_i s
      rw [ng, ng] at q
      have b : c * dot l (W i) ≤ dot p (W r) * dot l (W i) := by
        have := Int.mul_le_mul_of_nonneg_right hpr (show 0 ≤ -dot l (W i) by omega)
        rw [Int.mul_neg, Int.mul_neg] at this; omega
      rw [← a] at b
      have := Int.le_of_mul_le_mul_left b c0
      omega
    · have b : dot p (W r) * dot l (W i) ≤ c * dot l (W i) := Int.mul_le_mul_of_nonneg_right hpr (by omega)
      rw [← a] at b
      have := Int.le_of_mul_le_mul_left b c0
      omega
theorem inS_f {n k : Nat} : inS (fullS n) n k ↔ k < n := by
  constructor
  · exact fun z => z.1
  · intro h
    refine ⟨h, ?_⟩
    unfold fullS
    rw [Nat.testBit_two_pow_sub_one]; exact decide_eq_true h
theorem firm_sd {W : Nat → V3} {n : Nat} (h : firm W n (fullS n)) {a b : Nat} (ha : a < n) (hb : b < n) (hc : crs (W a) (W b) ≠ (0, 0, 0)) : ∃ k, k < n ∧ 0 < dot (crs (W a) (W b)) (W k) := by
  obtain ⟨-, g⟩ := h
  by_cases q : a < b
  · obtain ⟨⟨k, k1, k2⟩, -⟩ := g a b q (inS_f.mpr ha) (inS_f.mpr hb) hc
    exact ⟨k, k1.1, k2⟩
  · have q2 : b < a := by
      apply Classical.byContradiction
      intro z
      have e : a = b := by omega
      subst e
      apply hc
      unfold crs
      rw [show (W a).2.1 * (W a).2.2 - (W a).2.2 * (W a).2.1 = 0 by grind, show (W a).2.2 * (W a).1 - (W a).1 * (W a).2.2 = 0 by grind, show (W a).1 * (W a).2.1 - (W a).2.1 * (W a).1 = 0 by grind]
    have hc2 : crs (W b) (W a) ≠ (0, 0, 0) := by
      intro z
      apply hc
      rw [crs_sw, z]; rfl
    obtain ⟨-, k, k1, k2⟩ := g b a q2 (inS_f.mpr hb) (inS_f.mpr ha) hc2
    refine ⟨k, k1.1, ?_⟩
    rw [crs_sw]
    have : dot (neg3 (crs (W b) (W a))) (W k) = -dot (crs (W b) (W a)) (W k) := by
      generalize crs (W b) (W a) = l
      unfold dot neg3; dsimp only; grind
    omega
/-- a firm set has a plane that touches three, not in one plane with 0 -/
theorem sd_tri {W : Nat → V3} {n : Nat} (h : firm W n (fullS n)) : ∃ a b d p c, a < n ∧ b < n ∧ d < n ∧ sup W n p c ∧ dot p (W a) = c ∧ dot p (W b) = c ∧ dot p (W d) = c ∧ dot (crs (W a) (W b)) (W d) ≠ 0 := by
  have h0 := h
  obtain ⟨⟨i, j, k, hij, hi, hj, hk, hc, hd⟩, -⟩ := h0
  obtain ⟨a, ha, hm⟩ := mx_ex (fun q => dot (W i) (W q)) n (by have := hi.1; omega)
  have sq : 0 < dot (W i) (W i) := by
    have nz : ¬ ((W i).1 = 0 ∧ (W i).2.1 = 0 ∧ (W i).2.2 = 0) := by
      rintro ⟨z1, z2, z3⟩
      apply hc
      unfold crs
      rw [z1, z2, z3]
      simp
    have s1 : 0 ≤ (W i).1 * (W i).1 := by
      rcases Int.le_total 0 (W i).1 with z | z
      · exact Int.mul_nonneg z z
      · exact Int.mul_nonneg_of_nonpos_of_nonpos z z
    have s2 : 0 ≤ (W i).2.1 * (W i).2.1 := by
      rcases Int.le_total 0 (W i).2.1 with z | z
      · exact Int.mul_nonneg z z
      · exact Int.mul_nonneg_of_nonpos_of_nonpos z z
    have s3 : 0 ≤ (W i).2.2 * (W i).2.2 := by
      rcases Int.le_total 0 (W i).2.2 with z | z
      · exact Int.mul_nonneg z z
      · exact Int.mul_nonneg_of_nonpos_of_nonpos z z
    apply Classical.byContradiction
    intro z
    unfold dot at z
    apply nz
    refine ⟨?_, ?_, ?_⟩
    · have : (W i).1 * (W i).1 = 0 := by omega
      exact (Int.mul_eq_zero.mp this).elim id id
    · have : (W i).2.1 * (W i).2.1 = 0 := by omega
      exact (Int.mul_eq_zero.mp this).elim id id
    · have : (W i).2.2 * (W i).2.2 = 0 := by omega
      exact (Int.mul_eq_zero.mp this).elim id id
  have c0 : 0 < dot (W i) (W a) := by have := hm i hi.1; omega
  have s0 : sup W n (W i) (dot (W i) (W a)) := ⟨c0, hm⟩
  -- one that is not on a line with a
  have nl : ∃ b, b < n ∧ crs (W a) (W b) ≠ (0, 0, 0) := by
    apply Classical.byContradiction
    intro q
    have z : ∀ b, b < n → crs (W a) (W b) = (0, 0, 0) := fun b hb => Classical.byContradiction (fun y => q ⟨b, hb, y⟩)
    have z1 := z i hi.1
    have z2 := z j hj.1
    have na : W a ≠ (0, 0, 0) := by
      intro y; rw [y] at c0
      have : dot (W i) (0, 0, 0) = 0 := by unfold dot; dsimp only; omega
      omega
    apply hc
    revert z1 z2 na
    generalize W a = u; generalize W i = v; generalize W j = w
    obtain ⟨u1, u2, u3⟩ := u
    obtain ⟨v1, v2, v3⟩ := v
    obtain ⟨w1, w2, w3⟩ := w
    intro z1 z2 na
    unfold crs at z1 z2 ⊢
    dsimp only at z1 z2 ⊢
    injection z1 with a1 a2
    injection a2 with a2 a3
    injection z2 with b1 b2
    injection b2 with b2 b3
    have can : ∀ t s : Int, t ≠ 0 → t * s = 0 → s = 0 := fun t s ht hs => (Int.mul_eq_zero.mp hs).resolve_left ht
    have un : u1 ≠ 0 ∨ u2 ≠ 0 ∨ u3 ≠ 0 := by
      apply Classical.byContradiction
      intro y
      apply na
      rw [show u1 = 0 by omega, show u2 = 0 by omega, show u3 = 0 by omega]
    rcases un with hu | hu | hu
    · rw [can u1 (v2 * w3 - v3 * w2) hu (by grind), can u1 (v3 * w1 - v1 * w3) hu (by grind), can u1 (v1 * w2 - v2 * w1) hu (by grind)]
    · rw [can u2 (v2 * w3 - v3 * w2) hu (by grind), can u2 (v3 * w1 - v1 * w3) hu (by grind), can u2 (v1 * w2 - v2 * w1) hu (by grind)]
    · rw [can u3 (v2 * w3 - v3 * w2) hu (by grind), can u3 (v3 * w1 - v1 * w3) hu (by grind), can u3 (v1 * w2 - v2 * w1) hu (by grind)]
  obtain ⟨e, he, hce⟩ := nl
  have p0 : ∀ u v : V3, dot (crs u v) u = 0 ∧ dot (crs u v) v = 0 := fun u v => by unfold dot crs; dsimp only; exact ⟨by grind, by grind⟩
  obtain ⟨b, p1, c1, hb, db, s1, t1, k1⟩ := push s0 (firm_sd h ha he hce)
  have ta := k1 a ha rfl (p0 _ _).1
  have cab : crs (W a) (W b) ≠ (0, 0, 0) := by
    intro z
    have q1 := s1.1
    -- b is a, for both make c1
    have : dot (crs (W a) (W e)) (W b) * c1 = 0 := by
      have z' := z
      rw [← t1]
      have ta' : dot p1 (W b) = dot p1 (W a) := by rw [t1, ta]
      revert z' ta'
      generalize W a = u; generalize W b = v; generalize W e = w
      intro z' ta'
      unfold crs at z'
      injection z' with a1 a2
      injection a2 with a2 a3
      unfold dot at ta'
      unfold dot crs; dsimp only; grind
    have := (Int.mul_eq_zero.mp this).resolve_right (by omega)
    omega
  obtain ⟨d, p2, c2, hd2, dd, s2, t2, k2⟩ := push s1 (firm_sd h ha hb cab)
  exact ⟨a, b, d, p2, c2, ha, hb, hd2, s2, k2 a ha ta (p0 _ _).1, k2 b hb t1 (p0 _ _).2, t2, by omega⟩
theorem sm_le {f : Nat → Sds → Sds} (hm : ∀ j s, s.1 ≤ (f j s).1) : ∀ (d i : Nat) (s : Sds), s.1 ≤ (forN f i d s).1 := by
  intro d
  induction d with
  | zero => intro i s; exact Nat.le_refl _
  | succ d ih => intro i s; exact Nat.le_trans (hm i s) (ih (i + 1) (f i s))
theorem sm_hit {f : Nat → Sds → Sds} (hm : ∀ j s, s.1 ≤ (f j s).1) {j0 : Nat} (h0 : ∀ s, 0 < (f j0 s).1) : ∀ (d i : Nat) (s : Sds), i ≤ j0 → j0 < i + d → 0 < (forN f i d s).1 := by
  intro d
  induction d with
  | zero => intro i s h1 h2; omega
  | succ d ih =>
    intro i s h1 h2
    show 0 < (forN f (i + 1) d (f i s)).1
    by_cases q : i = j0
    · subst q
      exact Nat.lt_of_lt_of_le (h0 s) (sm_le hm d (i + 1) _)
    · exact ih (i + 1) _ (by omega) (by omega)
theorem sdS_m (W : Nat → V3) (n i j k : Nat) (s : Sds) : s.1 ≤ (sdS W n i j k s).1 := by
  unfold sdS
  split
  · exact Nat.le_refl _
  · rename_i p _
    by_cases q : kno s p
    · rw [ic_t q]; exact Nat.le_refl _
    · rw [ic_f q]; exact Nat.le_succ _
theorem sdS_h {W : Nat → V3} {n i j k : Nat} {v : V3} (hv : sdP W n i j k = some v) (s : Sds) : 0 < (sdS W n i j k s).1 := by
  unfold sdS
  rw [hv]
  dsimp only
  by_cases q : kno s v
  · rw [ic_t q]
    obtain ⟨r, hr, -⟩ := q
    omega
  · rw [ic_f q]; exact Nat.succ_pos _
theorem sdJ_m (W : Nat → V3) (n i j : Nat) (s : Sds) : s.1 ≤ (sdJ W n i j s).1 := sm_le (fun k s => sdS_m W n i j k s) _ _ _
theorem sdI_m (W : Nat → V3) (n i : Nat) (s : Sds) : s.1 ≤ (sdI W n i s).1 := sm_le (fun k s => sdJ_m W n i k s) _ _ _
theorem sdA_h {W : Nat → V3} {n i j k : Nat} {v : V3} (hij : i < j) (hjk : j < k) (hk : k < n) (hv : sdP W n i j k = some v) : 0 < (sdA W n).1 := by
  refine sm_hit (fun i s => sdI_m W n i s) (j0 := i) (fun s => ?_) n 0 _ (by omega) (by omega)
  refine sm_hit (fun j s => sdJ_m W n i j s) (j0 := j) (fun s => ?_) _ _ _ (by omega) (by omega)
  exact sm_hit (fun k s => sdS_m W n i j k s) (j0 := k) (fun s => sdS_h hv s) _ _ _ (by omega) (by omega)
theorem det_sw (x y z : V3) : dot (crs y x) z = -dot (crs x y) z ∧ dot (crs x z) y = -dot (crs x y) z ∧ dot (crs y z) x = dot (crs x y) z ∧ dot (crs z x) y = dot (crs x y) z ∧ dot (crs z y) x = -dot (crs x y) z := by
  unfold dot crs; dsimp only
  exact ⟨by grind, by grind, by grind, by grind, by grind⟩
theorem side_all (W : Nat → V3) (n : Nat) : sidE W n := by
  intro h
  obtain ⟨a, b, d, p, c, ha, hb, hd, hs, e1, e2, e3, det⟩ := sd_tri h
  have dz : ∀ u v : V3, dot (crs u u) v = 0 := fun u v => by unfold dot crs; dsimp only; grind
  obtain ⟨t1, t2, t3, t4, t5⟩ := det_sw (W a) (W b) (W d)
  have nab : a ≠ b := fun z => det (by rw [z]; exact dz _ _)
  have nad : a ≠ d := fun z => by
    rw [z] at det t2
    rw [dz] at t2; omega
  have nbd : b ≠ d := fun z => by
    rw [z] at det t3
    rw [dz] at t3; omega
  have go : ∀ i j k, i < j → j < k → k < n → dot p (W i) = c → dot p (W j) = c → dot p (W k) = c → dot (crs (W i) (W j)) (W k) ≠ 0 → 0 < (sdA W n).1 := by
    intro i j k h1 h2 h3 h4 h5 h6 h7
    obtain ⟨v, hv⟩ := sd_some hs h4 h5 h6 h7
    exact sdA_h h1 h2 h3 hv
  by_cases q1 : a < b
  · by_cases q2 : b < d
    · exact go a b d q1 q2 hd e1 e2 e3 det
    · by_cases q3 : a < d
      · exact go a d b q3 (by omega) hb e1 e3 e2 (by omega)
      · exact go d a b (by omega) q1 hb e3 e1 e2 (by omega)
  · by_cases q2 : a < d
    · exact go b a d (by omega) q2 hd e2 e1 e3 (by omega)
    · by_cases q3 : b < d
      · exact go b d a q3 (by omega) ha e2 e3 e1 (by omega)
      · exact go d b a (by omega) (by omega) ha e3 e2 e1 (by omega)
