/-! a8: what is firm has six that are -/
def lin (a : Int) (u : V3) (b : Int) (w : V3) : V3 := (a * u.1 + b * w.1, a * u.2.1 + b * w.2.1, a * u.2.2 + b * w.2.2)
theorem dot_lin (y u w : V3) (a b : Int) : dot y (lin a u b w) = a * dot y u + b * dot y w := by unfold dot lin; dsimp only; grind
theorem lin_dot (y u w : V3) (a b : Int) : dot (lin a u b w) y = a * dot u y + b * dot w y := by unfold dot lin; dsimp only; grind
/-- L is made of at most k of the wrenches, with numbers of at least 0 -/
def cmb : Nat → (Nat → V3) → Nat → (V3 → Int) → Prop
  | 0, _, _, L => ∀ y, L y = 0
  | k + 1, W, n, L => cmb k W n L ∨ ∃ i, i < n ∧ ∃ c : Int, 0 ≤ c ∧ cmb k W n (fun y => L y - c * dot y (W i))
theorem cmb_c {k : Nat} {W : Nat → V3} {n : Nat} {L M : V3 → Int} (h : cmb k W n L) (e : ∀ y, L y = M y) : cmb k W n M := by
  have : L = M := funext e
  rw [← this]; exact h
theorem cmb_0 {W : Nat → V3} {n : Nat} {L : V3 → Int} (h : ∀ y, L y = 0) : ∀ k, cmb k W n L := by
  intro k
  induction k with
  | zero => exact h
  | succ k ih => exact Or.inl ih
theorem cmb_n {W : Nat → V3} {n : Nat} : ∀ (k : Nat) (L : V3 → Int), cmb k W n L → cmb k W (n + 1) L := by
  intro k
  induction k with
  | zero => intro L h; exact h
  | succ k ih =>
    intro L h
    rcases h with h | ⟨i, hi, c, hc, h⟩
    · exact Or.inl (ih L h)
    · exact Or.inr ⟨i, by omega, c, hc, ih _ h⟩
theorem cmb_p {W : Nat → V3} {n : Nat} {y s : V3} {t : Int} (t0 : 0 < t) (hy : ∀ i, i < n → dot y (W i) ≤ 0) : ∀ (k : Nat) (L : V3 → Int), cmb k (fun i => lin t (W i) (-dot y (W i)) s) n L → ∃ c : Int, 0 ≤ c ∧ cmb k W n (fun z => L z - c * dot z s) := by
  intro k
  induction k with
  | zero => intro L h; exact ⟨0, by omega, fun z => by show L z - 0 * dot z s = 0; rw [h z, Int.zero_mul]; rfl⟩
  | succ k ih =>
    intro L h
    rcases h with h | ⟨i, hi, c, hc, h⟩
    · obtain ⟨c, hc, h'⟩ := ih L h
      exact ⟨c, hc, Or.inl h'⟩
    · obtain ⟨d, hd, h'⟩ := ih _ h
      have hyi := hy i hi
      refine ⟨d + c * (-dot y (W i)), ?_, Or.inr ⟨i, hi, c * t, Int.mul_nonneg hc (by omega), cmb_c h' (fun z => ?_)⟩⟩
      · have := Int.mul_nonneg hc (show 0 ≤ -dot y (W i) by omega); omega
      · dsimp only
        rw [dot_lin]
        generalize dot y (W i) = a
        generalize dot z (W i) = b
        generalize dot z s = e
        grind
/-- made of at most k, or parted from them -/
def Sol (k : Nat) (W : Nat → V3) (n : Nat) (v : V3) : Prop := (∃ m : Int, 0 < m ∧ cmb k W n (fun y => m * dot y v)) ∨ ∃ y, (∀ i, i < n → dot y (W i) ≤ 0) ∧ 0 < dot y v
theorem fark_step {k : Nat} {D D' : (Nat → V3) → Nat → V3 → Prop} (hl : ∀ W n v, D' W n v → Sol k W n v) (hr : ∀ W n v, D W (n + 1) v → D W n v) (hs : ∀ W n v y, D W (n + 1) v → 0 < dot y v → 0 < dot y (W n) → D' (fun i => lin (dot y (W n)) (W i) (-dot y (W i)) (W n)) n (lin (dot y (W n)) v (-dot y v) (W n))) : ∀ n W v, D W n v → Sol (k + 1) W n v := by
  intro n
  induction n with
  | zero =>
    intro W v _
    by_cases q : ∀ y, dot y v = 0
    · exact Or.inl ⟨1, by decide, cmb_0 (fun y => by rw [q y, Int.mul_zero]) _⟩
    · have : ∃ y, dot y v ≠ 0 := Classical.byContradiction (fun z => q (fun y => Classical.byContradiction (fun w => z ⟨y, w⟩)))
      obtain ⟨y, hy⟩ := this
      by_cases p : 0 < dot y v
      · exact Or.inr ⟨y, fun i hi => absurd hi (Nat.not_lt_zero i), p⟩
      · exact Or.inr ⟨neg3 y, fun i hi => absurd hi (Nat.not_lt_zero i), by rw [dot_ng]; omega⟩
  | succ n ih =>
    intro W v hD
    rcases ih W v (hr W n v hD) with ⟨m, hm, h⟩ | ⟨y, hy, hv⟩
    · exact Or.inl ⟨m, hm, cmb_n _ _ h⟩
    · by_cases q : dot y (W n) ≤ 0
      · refine Or.inr ⟨y, fun i hi => ?_, hv⟩
        by_cases e : i = n
        · rw [e]; exact q
        · exact hy i (by omega)
      · have t0 : 0 < dot y (W n) := by omega
        rcases hl _ _ _ (hs W n v y hD hv t0) with ⟨m, hm, h⟩ | ⟨z, hz, hzv⟩
        · obtain ⟨c, hc, h'⟩ := cmb_p t0 hy k _ h
          refine Or.inl ⟨m * dot y (W n), Int.mul_pos hm t0, Or.inr ⟨n, by omega, m * dot y v + c, ?_, ?_⟩⟩
          · have := Int.mul_pos hm hv; omega
          · refine cmb_n _ _ (cmb_c h' (fun z => ?_))
            dsimp only
            rw [dot_lin]
            generalize dot z v = a
            generalize dot y v = b
            generalize dot z (W n) = e
            generalize dot y (W n) = d
            grind
        · refine Or.inr ⟨lin (dot y (W n)) z (-dot z (W n)) y, fun i hi => ?_, ?_⟩
          · rw [lin_dot]
            by_cases e : i = n
            · rw [e, Int.neg_mul, Int.mul_comm (dot z (W n))]; omega
            · have := hz i (by omega)
              rw [dot_lin] at this
              rw [Int.neg_mul] at *
              rw [Int.mul_comm (dot z (W n))]; exact this
          · rw [lin_dot]
            rw [dot_lin] at hzv
            rw [Int.neg_mul] at *
            rw [Int.mul_comm (dot z (W n))]; exact hzv
theorem sq_pos {u : V3} (h : u ≠ (0, 0, 0)) : 0 < dot u u := by
  obtain ⟨a, b, c⟩ := u
  have sq : ∀ x : Int, 0 ≤ x * x := fun x => by
    rcases Int.le_total 0 x with z | z
    · exact Int.mul_nonneg z z
    · exact Int.mul_nonneg_of_nonpos_of_nonpos z z
  have s1 := sq a; have s2 := sq b; have s3 := sq c
  apply Classical.byContradiction
  intro z
  unfold dot at z
  dsimp only at z
  apply h
  have z1 : a * a = 0 := by omega
  have z2 : b * b = 0 := by omega
  have z3 : c * c = 0 := by omega
  rw [(Int.mul_eq_zero.mp z1).elim id id, (Int.mul_eq_zero.mp z2).elim id id, (Int.mul_eq_zero.mp z3).elim id id]
/-- on one line: what one makes the other makes -/
theorem par_dot {u v : V3} (h : crs u v = (0, 0, 0)) (x y : V3) : dot u x * dot v y = dot v x * dot u y := by
  unfold crs at h
  injection h with q1 q2
  injection q2 with q2 q3
  unfold dot; grind
theorem det_z {a b y v : V3} (hd : dot (crs a b) y ≠ 0) (h1 : dot a v = 0) (h2 : dot b v = 0) (h3 : dot y v = 0) : v = (0, 0, 0) := by
  have cz : ∀ t : Int, dot (crs a b) y * t = 0 → t = 0 := fun t ht => (Int.mul_eq_zero.mp ht).resolve_left hd
  have x1 : v.1 = 0 := cz _ (by unfold dot crs; unfold dot at h1 h2 h3; dsimp only; grind)
  have x2 : v.2.1 = 0 := cz _ (by unfold dot crs; unfold dot at h1 h2 h3; dsimp only; grind)
  have x3 : v.2.2 = 0 := cz _ (by unfold dot crs; unfold dot at h1 h2 h3; dsimp only; grind)
  obtain ⟨p, q, r⟩ := v
  dsimp only at x1 x2 x3
  rw [x1, x2, x3]
theorem fark0 (W : Nat → V3) (n : Nat) (v : V3) (h : v = (0, 0, 0)) : Sol 0 W n v := by
  refine Or.inl ⟨1, by decide, fun y => ?_⟩
  show 1 * dot y v = 0
  rw [h, dot_com, dot_0]; rfl
theorem fark1 (W : Nat → V3) (n : Nat) (v : V3) (h : ∃ a b, crs a b ≠ (0, 0, 0) ∧ (dot a v = 0 ∧ dot b v = 0) ∧ ∀ i, i < n → dot a (W i) = 0 ∧ dot b (W i) = 0) : Sol 1 W n v := by
  refine fark_step (k := 0) (D := fun W n v => ∃ a b, crs a b ≠ (0, 0, 0) ∧ (dot a v = 0 ∧ dot b v = 0) ∧ ∀ i, i < n → dot a (W i) = 0 ∧ dot b (W i) = 0) (D' := fun _ _ v => v = (0, 0, 0)) fark0 ?_ ?_ n W v h
  · rintro W n v ⟨a, b, h1, h2, h3⟩
    exact ⟨a, b, h1, h2, fun i hi => h3 i (by omega)⟩
  · rintro W n v y ⟨a, b, h1, ⟨h2, h2'⟩, h3⟩ hv ht
    obtain ⟨w1, w2⟩ := h3 n (by omega)
    have hu : dot (crs a b) y ≠ 0 := by
      intro z
      have par : crs v (crs a b) = (0, 0, 0) := nn_par h1 (by rw [dot_com]; exact h2) (by rw [dot_com]; exact h2') (by unfold dot crs; dsimp only; grind) (by unfold dot crs; dsimp only; grind)
      have e := par_dot par y (crs a b)
      rw [z, Int.zero_mul, dot_com v y] at e
      have sq := sq_pos h1
      have := Int.mul_pos hv sq
      omega
    refine det_z hu ?_ ?_ ?_
    · rw [dot_lin, h2, w1]; omega
    · rw [dot_lin, h2', w2]; omega
    · rw [dot_lin, Int.neg_mul, Int.mul_comm]; omega
theorem fark2 (W : Nat → V3) (n : Nat) (v : V3) (h : ∃ a, a ≠ (0, 0, 0) ∧ dot a v = 0 ∧ ∀ i, i < n → dot a (W i) = 0) : Sol 2 W n v := by
  refine fark_step (k := 1) (D := fun W n v => ∃ a, a ≠ (0, 0, 0) ∧ dot a v = 0 ∧ ∀ i, i < n → dot a (W i) = 0) fark1 ?_ ?_ n W v h
  · rintro W n v ⟨a, h1, h2, h3⟩
    exact ⟨a, h1, h2, fun i hi => h3 i (by omega)⟩
  · rintro W n v y ⟨a, h1, h2, h3⟩ hv ht
    have w1 := h3 n (by omega)
    refine ⟨a, y, fun z => ?_, ⟨?_, ?_⟩, fun i hi => ⟨?_, ?_⟩⟩
    · have e := par_dot z v a
      rw [h2, Int.zero_mul] at e
      have := Int.mul_pos hv (sq_pos h1)
      omega
    · rw [dot_lin, h2, w1]; omega
    · rw [dot_lin, Int.neg_mul, Int.mul_comm]; omega
    · rw [dot_lin, h3 i (by omega), w1]; omega
    · rw [dot_lin, Int.neg_mul, Int.mul_comm]; omega
theorem fark3 (W : Nat → V3) (n : Nat) (v : V3) : Sol 3 W n v := by
  refine fark_step (k := 2) (D := fun _ _ _ => True) fark2 ?_ ?_ n W v trivial
  · exact fun _ _ _ _ => trivial
  · intro W n v y _ hv ht
    refine ⟨y, fun z => ?_, ?_, fun i hi => ?_⟩
    · rw [z, dot_0] at hv; omega
    · rw [dot_lin, Int.neg_mul, Int.mul_comm]; omega
    · rw [dot_lin, Int.neg_mul, Int.mul_comm]; omega
/-- pushed along d within what makes at most 0 with each -/
theorem pushC {W : Nat → V3} {n : Nat} {y d : V3} (h : ∀ q, q < n → dot y (W q) ≤ 0) (hd : ∃ q, q < n ∧ 0 < dot d (W q)) : ∃ a, a < n ∧ 0 < dot d (W a) ∧ (∀ q, q < n → dot (lin (dot d (W a)) y (-dot y (W a)) d) (W q) ≤ 0) := by
  obtain ⟨a, ha, da, hm⟩ := rt_ex (fun q => dot d (W q)) (fun q => dot y (W q)) n hd
  refine ⟨a, ha, da, fun q hq => ?_⟩
  rw [lin_dot]
  by_cases z : 0 < dot d (W q)
  · have := hm q hq z
    rw [Int.neg_mul, Int.mul_comm (dot d (W a))]; omega
  · have m1 : dot d (W a) * dot y (W q) ≤ 0 := Int.mul_nonpos_of_nonneg_of_nonpos (Int.le_of_lt da) (h q hq)
    have la := h a ha
    have m2 : -dot y (W a) * dot d (W q) ≤ 0 := Int.mul_nonpos_of_nonneg_of_nonpos (by omega) (by omega)
    omega
