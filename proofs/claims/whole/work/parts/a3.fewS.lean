/-! a3: no more sides than 2 n - 4 -/
/-- p is a side, touched by i, j, k -/
def fct (W : Nat → V3) (n : Nat) (p : V3) (i j k : Nat) : Prop := (i < n ∧ j < n ∧ k < n) ∧ gcd3 p = 1 ∧ 0 < dot p (W i) ∧ dot p (W j) = dot p (W i) ∧ dot p (W k) = dot p (W i) ∧ (∀ q, q < n → dot p (W q) ≤ dot p (W i)) ∧ dot (crs (W i) (W j)) (W k) ≠ 0
theorem nn_par {u w p q : V3} (hN : crs u w ≠ (0, 0, 0)) (h1 : dot p u = 0) (h2 : dot p w = 0) (h3 : dot q u = 0) (h4 : dot q w = 0) : crs p q = (0, 0, 0) := by
  obtain ⟨u1, u2, u3⟩ := u
  obtain ⟨w1, w2, w3⟩ := w
  obtain ⟨p1, p2, p3⟩ := p
  obtain ⟨q1, q2, q3⟩ := q
  unfold dot at h1 h2 h3 h4
  unfold crs at hN ⊢
  dsimp only at *
  have can : ∀ t s : Int, t ≠ 0 → t * s = 0 → s = 0 := fun t s ht hs => (Int.mul_eq_zero.mp hs).resolve_left ht
  have un : u2 * w3 - u3 * w2 ≠ 0 ∨ u3 * w1 - u1 * w3 ≠ 0 ∨ u1 * w2 - u2 * w1 ≠ 0 := by
    apply Classical.byContradiction
    intro y
    apply hN
    rw [show u2 * w3 - u3 * w2 = 0 by omega, show u3 * w1 - u1 * w3 = 0 by omega, show u1 * w2 - u2 * w1 = 0 by omega]
  rcases un with hu | hu | hu
  · rw [can _ (p2 * q3 - p3 * q2) hu (by grind), can _ (p3 * q1 - p1 * q3) hu (by grind), can _ (p1 * q2 - p2 * q1) hu (by grind)]
  · rw [can _ (p2 * q3 - p3 * q2) hu (by grind), can _ (p3 * q1 - p1 * q3) hu (by grind), can _ (p1 * q2 - p2 * q1) hu (by grind)]
  · rw [can _ (p2 * q3 - p3 * q2) hu (by grind), can _ (p3 * q1 - p1 * q3) hu (by grind), can _ (p1 * q2 - p2 * q1) hu (by grind)]
theorem pn_dot (v a b : V3) : dot (pn3 v a b) v = dot (crs v a) b := by
  unfold dot pn3 crs sub3; dsimp only; grind
theorem dot_sub (p a b : V3) : dot p (sub3 a b) = dot p a - dot p b := by
  unfold dot sub3; dsimp only; grind
theorem dot_0 (v : V3) : dot (0, 0, 0) v = 0 := by unfold dot; dsimp only; omega
/-- a side is known by three that it touches -/
theorem fct_un {v a b p q : V3} (hp : gcd3 p = 1) (hq : gcd3 q = 1) (hd : dot (crs v a) b ≠ 0) (p0 : 0 < dot p v) (p1 : dot p a = dot p v) (p2 : dot p b = dot p v) (q0 : 0 < dot q v) (q1 : dot q a = dot q v) (q2 : dot q b = dot q v) : p = q := by
  have hN : crs (sub3 a v) (sub3 b v) ≠ (0, 0, 0) := by
    intro z
    apply hd
    rw [← pn_dot]
    show dot (crs (sub3 a v) (sub3 b v)) v = 0
    rw [z]; exact dot_0 v
  have x0 := nn_par (p := p) (q := q) hN (by rw [dot_sub]; omega) (by rw [dot_sub]; omega) (by rw [dot_sub]; omega) (by rw [dot_sub]; omega)
  rcases par_un hp hq x0 with z | z
  · exact z
  · rw [z, dot_ng] at p0; omega
theorem d_id (g p v a b : V3) : (dot g b - dot g v) * (dot p a - dot p v) + (dot g v - dot g a) * (dot p b - dot p v) = dot p (crs g (pn3 v a b)) := by
  unfold dot pn3 crs sub3; dsimp only; grind
theorem cN_id {p v a b : V3} (h1 : dot p a = dot p v) (h2 : dot p b = dot p v) : dot p v * (pn3 v a b).1 = dot (pn3 v a b) v * p.1 ∧ dot p v * (pn3 v a b).2.1 = dot (pn3 v a b) v * p.2.1 ∧ dot p v * (pn3 v a b).2.2 = dot (pn3 v a b) v * p.2.2 := by
  have e1 : dot p (sub3 a v) = 0 := by rw [dot_sub]; omega
  have e2 : dot p (sub3 b v) = 0 := by rw [dot_sub]; omega
  have e : pn3 v a b = crs (sub3 a v) (sub3 b v) := rfl
  rw [e]
  revert e1 e2
  generalize sub3 a v = x
  generalize sub3 b v = y
  intro e1 e2
  have par : crs p (crs x y) = (0, 0, 0) := by
    unfold dot at e1 e2
    unfold crs; dsimp only
    congr 1
    · grind
    · congr 1 <;> grind
  revert par
  generalize crs x y = N
  intro par
  unfold crs at par
  injection par with q1 q2
  injection q2 with q2 q3
  unfold dot
  exact ⟨by grind, by grind, by grind⟩
theorem T_id {c D : Int} {N p : V3} (g q : V3) (h1 : c * N.1 = D * p.1) (h2 : c * N.2.1 = D * p.2.1) (h3 : c * N.2.2 = D * p.2.2) : c * dot q (crs g N) = D * dot q (crs g p) := by
  unfold dot crs; dsimp only; grind
theorem T_sw (g p q : V3) : dot q (crs g p) = -dot p (crs g q) := by
  unfold dot crs; dsimp only; grind
def gG : V3 := (1, 1000000, 1000000000000)
/-- p is a side, v stands between a and b on it -/
def mdl (W : Nat → V3) (n : Nat) (p : V3) (v a b : Nat) : Prop := fct W n p v a b ∧ dot gG (W a) < dot gG (W v) ∧ dot gG (W v) < dot gG (W b)
theorem mdl_un {W : Nat → V3} {n v a b d e : Nat} {p q : V3} (h : mdl W n p v a b) (k : mdl W n q v d e) (hs : 0 < dot (crs (W v) (W a)) (W b) ↔ 0 < dot (crs (W v) (W d)) (W e)) : p = q := by
  obtain ⟨⟨⟨hv, ha, hb⟩, gp, p0, p1, p2, pm, pd⟩, o1, o2⟩ := h
  obtain ⟨⟨⟨-, hd, he⟩, gq, q0, q1, q2, qm, qd⟩, o3, o4⟩ := k
  have m1 := qm a ha
  have m2 := qm b hb
  have m3 := pm d hd
  have m4 := pm e he
  have x1 : (dot gG (W b) - dot gG (W v)) * (dot q (W a) - dot q (W v)) ≤ 0 := Int.mul_nonpos_of_nonneg_of_nonpos (by omega) (by omega)
  have x2 : (dot gG (W v) - dot gG (W a)) * (dot q (W b) - dot q (W v)) ≤ 0 := Int.mul_nonpos_of_nonneg_of_nonpos (by omega) (by omega)
  have x3 : (dot gG (W e) - dot gG (W v)) * (dot p (W d) - dot p (W v)) ≤ 0 := Int.mul_nonpos_of_nonneg_of_nonpos (by omega) (by omega)
  have x4 : (dot gG (W v) - dot gG (W d)) * (dot p (W e) - dot p (W v)) ≤ 0 := Int.mul_nonpos_of_nonneg_of_nonpos (by omega) (by omega)
  have i1 := d_id gG q (W v) (W a) (W b)
  have i2 := d_id gG p (W v) (W d) (W e)
  obtain ⟨c1, c2, c3⟩ := cN_id p1 p2
  obtain ⟨d1, d2, d3⟩ := cN_id q1 q2
  have t1 := T_id gG q c1 c2 c3
  have t2 := T_id gG p d1 d2 d3
  rw [pn_dot, ← i1] at t1
  rw [pn_dot, ← i2, T_sw] at t2
  have n1 : dot p (W v) * ((dot gG (W b) - dot gG (W v)) * (dot q (W a) - dot q (W v)) + (dot gG (W v) - dot gG (W a)) * (dot q (W b) - dot q (W v))) ≤ 0 := Int.mul_nonpos_of_nonneg_of_nonpos (by omega) (by omega)
  have n2 : dot q (W v) * ((dot gG (W e) - dot gG (W v)) * (dot p (W d) - dot p (W v)) + (dot gG (W v) - dot gG (W d)) * (dot p (W e) - dot p (W v))) ≤ 0 := Int.mul_nonpos_of_nonneg_of_nonpos (by omega) (by omega)
  rw [t1] at n1
  rw [t2, Int.mul_neg] at n2
  have T0 : dot q (crs gG p) = 0 := by
    generalize dot q (crs gG p) = T at *
    generalize dot (crs (W v) (W a)) (W b) = D at *
    generalize dot (crs (W v) (W d)) (W e) = D' at *
    rcases Int.lt_trichotomy T 0 with z | z | z
    · rcases (by omega : 0 < D ∧ 0 < D' ∨ D < 0 ∧ D' < 0) with ⟨y1, y2⟩ | ⟨y1, y2⟩
      · have := Int.mul_neg_of_pos_of_neg y2 z; omega
      · have := Int.mul_pos_of_neg_of_neg y1 z; omega
    · exact z
    · rcases (by omega : 0 < D ∧ 0 < D' ∨ D < 0 ∧ D' < 0) with ⟨y1, y2⟩ | ⟨y1, y2⟩
      · have := Int.mul_pos y1 z; omega
      · have := Int.mul_neg_of_neg_of_pos y2 z; omega
  rw [T0, Int.mul_zero] at t1
  have s0 := (Int.mul_eq_zero.mp t1).resolve_left (by omega)
  have z1 : (dot gG (W b) - dot gG (W v)) * (dot q (W a) - dot q (W v)) = 0 := by omega
  have z2 : (dot gG (W v) - dot gG (W a)) * (dot q (W b) - dot q (W v)) = 0 := by omega
  have y1 := (Int.mul_eq_zero.mp z1).resolve_left (by omega)
  have y2 := (Int.mul_eq_zero.mp z2).resolve_left (by omega)
  exact fct_un gp gq pd p0 p1 p2 q0 (by omega) (by omega)
theorem gG_in {a b : V3} (ha : a.1.natAbs ≤ 1200 ∧ a.2.1.natAbs ≤ 1200 ∧ a.2.2.natAbs ≤ 1200) (hb : b.1.natAbs ≤ 1200 ∧ b.2.1.natAbs ≤ 1200 ∧ b.2.2.natAbs ≤ 1200) (h : dot gG a = dot gG b) : a = b := by
  obtain ⟨x, y, z⟩ := a
  obtain ⟨u, v, w⟩ := b
  unfold dot gG at h
  dsimp only at *
  rw [show x = u by omega, show y = v by omega, show z = w by omega]
theorem fct_sw1 {W : Nat → V3} {n i j k : Nat} {p : V3} (h : fct W n p i j k) : fct W n p j i k := by
  obtain ⟨⟨h1, h2, h3⟩, h4, h5, h6, h7, h8, h9⟩ := h
  obtain ⟨t1, -⟩ := det_sw (W i) (W j) (W k)
  exact ⟨⟨h2, h1, h3⟩, h4, by omega, by omega, by omega, fun q hq => by have := h8 q hq; omega, by omega⟩
theorem fct_sw2 {W : Nat → V3} {n i j k : Nat} {p : V3} (h : fct W n p i j k) : fct W n p i k j := by
  obtain ⟨⟨h1, h2, h3⟩, h4, h5, h6, h7, h8, h9⟩ := h
  obtain ⟨-, t2, -⟩ := det_sw (W i) (W j) (W k)
  exact ⟨⟨h1, h3, h2⟩, h4, by omega, by omega, by omega, fun q hq => by have := h8 q hq; omega, by omega⟩
theorem fct_m {W : Nat → V3} {n i j k : Nat} {p : V3} (hB : Wb W n) (h : fct W n p i j k) : ∃ v a b, mdl W n p v a b := by
  have dz : ∀ u v : V3, dot (crs u u) v = 0 := fun u v => by unfold dot crs; dsimp only; grind
  have h0 := h
  obtain ⟨⟨h1, h2, h3⟩, -, -, -, -, -, h9⟩ := h0
  have bb : ∀ q, q < n → (W q).1.natAbs ≤ 1200 ∧ (W q).2.1.natAbs ≤ 1200 ∧ (W q).2.2.natAbs ≤ 1200 := fun q hq => by
    have := hB q hq; omega
  obtain ⟨t1, t2, t3, t4, t5⟩ := det_sw (W i) (W j) (W k)
  have n1 : dot gG (W i) ≠ dot gG (W j) := fun z => h9 (by rw [gG_in (bb i h1) (bb j h2) z]; exact dz _ _)
  have n2 : dot gG (W i) ≠ dot gG (W k) := fun z => by
    have e := gG_in (bb i h1) (bb k h3) z
    rw [e] at t2 h9
    rw [dz] at t2; omega
  have n3 : dot gG (W j) ≠ dot gG (W k) := fun z => by
    have e := gG_in (bb j h2) (bb k h3) z
    rw [e] at t3 h9
    rw [dz] at t3; omega
  by_cases q1 : dot gG (W i) < dot gG (W j)
  · by_cases q2 : dot gG (W j) < dot gG (W k)
    · exact ⟨j, i, k, fct_sw1 h, q1, q2⟩
    · by_cases q3 : dot gG (W i) < dot gG (W k)
      · exact ⟨k, i, j, fct_sw1 (fct_sw2 h), q3, by omega⟩
      · exact ⟨i, k, j, fct_sw2 h, by omega, q1⟩
  · by_cases q2 : dot gG (W i) < dot gG (W k)
    · exact ⟨i, j, k, h, by omega, q2⟩
    · by_cases q3 : dot gG (W j) < dot gG (W k)
      · exact ⟨k, j, i, fct_sw2 (fct_sw1 (fct_sw2 h)), q3, by omega⟩
      · exact ⟨j, k, i, fct_sw2 (fct_sw1 h), by omega, by omega⟩
theorem few_sd {W : Nat → V3} {n m : Nat} {P : Nat → V3} (hB : Wb W n) (h1 : ∀ s, s < m → ∃ i j k, fct W n (P s) i j k) (h2 : ∀ s t, s < t → t < m → P s ≠ P t) : m = 0 ∨ m + 4 ≤ 2 * n := by
  by_cases m0 : m = 0
  · exact Or.inl m0
  right
  have key : ∀ s, ∃ x : Nat × Nat × Nat, s < m → mdl W n (P s) x.1 x.2.1 x.2.2 := by
    intro s
    by_cases q : s < m
    · obtain ⟨i, j, k, h⟩ := h1 s q
      obtain ⟨v, a, b, h'⟩ := fct_m hB h
      exact ⟨(v, a, b), fun _ => h'⟩
    · exact ⟨(0, 0, 0), fun z => absurd z q⟩
  obtain ⟨X, hX⟩ : ∃ X : Nat → Nat × Nat × Nat, ∀ s, s < m → mdl W n (P s) (X s).1 (X s).2.1 (X s).2.2 := ⟨fun s => Classical.choose (key s), fun s => Classical.choose_spec (key s)⟩
  have x0 := hX 0 (by omega)
  have n0 : 0 < n := by have := x0.1.1.1; omega
  obtain ⟨mx, x1, x2⟩ := mx_ex (fun q => dot gG (W q)) n n0
  obtain ⟨mn, y1, y2⟩ := mx_ex (fun q => -dot gG (W q)) n n0
  have D01 : ∀ s, ∃ e : Nat, e ≤ 1 ∧ (e = 1 ↔ 0 < dot (crs (W (X s).1) (W (X s).2.1)) (W (X s).2.2)) := by
    intro s
    by_cases q : 0 < dot (crs (W (X s).1) (W (X s).2.1)) (W (X s).2.2)
    · exact ⟨1, by omega, by simp [q]⟩
    · exact ⟨0, by omega, by simp [q]⟩
  obtain ⟨e, he⟩ : ∃ e : Nat → Nat, ∀ s, e s ≤ 1 ∧ (e s = 1 ↔ 0 < dot (crs (W (X s).1) (W (X s).2.1)) (W (X s).2.2)) := ⟨fun s => Classical.choose (D01 s), fun s => Classical.choose_spec (D01 s)⟩
  have vb : ∀ s, s < m → (X s).1 < n ∧ (X s).1 ≠ mx ∧ (X s).1 ≠ mn ∧ mx ≠ mn := by
    intro s hs
    obtain ⟨⟨⟨b1, b2, b3⟩, -⟩, o1, o2⟩ := hX s hs
    have r1 : dot gG (W (X s).2.2) ≤ dot gG (W mx) := x2 _ b3
    have r2 : -dot gG (W (X s).2.1) ≤ -dot gG (W mn) := y2 _ b2
    refine ⟨b1, fun z => ?_, fun z => ?_, fun z => ?_⟩
    · rw [z] at o2; omega
    · rw [z] at o1; omega
    · rw [z] at r1; omega
  have v0 := vb 0 (by omega)
  refine pig (2 * n) (m + 4) (fun s => if s < m then 2 * (X s).1 + e s else if s = m then 2 * mx else if s = m + 1 then 2 * mx + 1 else if s = m + 2 then 2 * mn else 2 * mn + 1) (fun s hs => ?_) (fun s t hst ht => ?_)
  · show (if s < m then 2 * (X s).1 + e s else if s = m then 2 * mx else if s = m + 1 then 2 * mx + 1 else if s = m + 2 then 2 * mn else 2 * mn + 1) < 2 * n
    have := (he s).1
    split
    · rename_i q
      have := vb s q; omega
    · split
      · omega
      · split
        · omega
        · split <;> omega
  · show (if s < m then 2 * (X s).1 + e s else if s = m then 2 * mx else if s = m + 1 then 2 * mx + 1 else if s = m + 2 then 2 * mn else 2 * mn + 1) ≠ (if t < m then 2 * (X t).1 + e t else if t = m then 2 * mx else if t = m + 1 then 2 * mx + 1 else if t = m + 2 then 2 * mn else 2 * mn + 1)
    have es := he s
    have et := he t
    by_cases qt : t < m
    · have qs : s < m := by omega
      rw [if_pos qt, if_pos qs]
      intro z
      have zv : (X s).1 = (X t).1 := by omega
      have ze : e s = e t := by omega
      have hs' := hX s qs
      have ht' := hX t qt
      refine h2 s t hst qt ?_
      rw [← zv] at ht'
      refine mdl_un hs' ht' ?_
      rw [← zv] at et
      rw [← es.2, ← et.2, ze]
    · rw [if_neg qt]
      by_cases qs : s < m
      · rw [if_pos qs]
        have w := vb s qs
        split
        · omega
        · split
          · omega
          · split <;> omega
      · rw [if_neg qs]
        clear hX he es et vb x0 x2 y2 D01 key h1 h2
        repeat' split
        all_goals omega
