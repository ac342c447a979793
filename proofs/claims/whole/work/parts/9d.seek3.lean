/-! 9d: the class's hold: twos, threes, seek -/
section Seek3
variable {E : gj_E} {SI : gj_I} {SJ : gj_J} {W : Nat → V3} {O : Nat → Int} {n : Nat} {r : V3}
theorem sub_b2 {x y : Int} {m n : Nat} (k : Nat) (hx : x.natAbs ≤ m) (hy : y.natAbs ≤ n) (h : m + n ≤ k) : (x - y).natAbs ≤ k := Nat.le_trans (sub_b hx hy) h
theorem raw2c_b (hB : Wb W n) (hr : Rb r) {i j : Nat} (hi : i < n) (hj : j < n) : (raw2c (W i) (W j) r).1.natAbs ≤ 30000000 ∧ (raw2c (W i) (W j) r).2.1.natAbs ≤ 40000000000 ∧ (raw2c (W i) (W j) r).2.2.natAbs ≤ 40000000000 := by
  obtain ⟨p1, p2, p3⟩ := crs_b hB hi hj
  obtain ⟨a1, a2, a3⟩ := hB i hi
  obtain ⟨b1, b2, b3⟩ := hB j hj
  obtain ⟨r1, r2, r3⟩ := hr
  unfold raw2c
  split
  · split
    · exact ⟨Nat.le_trans p2 (by decide), sub_b2 _ (mul_b r3 b1) (mul_b r1 b3) (by decide), sub_b2 _ (mul_b a3 r1) (mul_b a1 r3) (by decide)⟩
    · exact ⟨Nat.le_trans p1 (by decide), sub_b2 _ (mul_b r2 b3) (mul_b r3 b2) (by decide), sub_b2 _ (mul_b a2 r3) (mul_b a3 r2) (by decide)⟩
  · exact ⟨Nat.le_trans p3 (by decide), sub_b2 _ (mul_b r1 b2) (mul_b r2 b1) (by decide), sub_b2 _ (mul_b a1 r2) (mul_b a2 r1) (by decide)⟩
/-- the reference's set of two is well bounded -/
theorem cd2_w (hB : Wb W n) (hr : Rb r) {i j : Nat} (hi : i < n) (hj : j < n) (h : ok2 W r i j) : WC (cd2 W r i j) := by
  obtain ⟨p1, p2, p3⟩ := crs_b hB hi hj
  obtain ⟨a1, a2, a3⟩ := hB i hi
  obtain ⟨b1, b2, b3⟩ := hB j hj
  obtain ⟨r1, r2, r3⟩ := hr
  have rb : (raw2 (W i) (W j) r).1.natAbs ≤ 150000 ∧ (raw2 (W i) (W j) r).2.1.natAbs ≤ 400000000 ∧ (raw2 (W i) (W j) r).2.2.natAbs ≤ 400000000 := by
    unfold raw2
    split
    · split
      · exact ⟨p1, sub_b2 _ (mul_b r2 b3) (mul_b r3 b2) (by decide), sub_b2 _ (mul_b a2 r3) (mul_b a3 r2) (by decide)⟩
      · exact ⟨p2, sub_b2 _ (mul_b r3 b1) (mul_b r1 b3) (by decide), sub_b2 _ (mul_b a3 r1) (mul_b a1 r3) (by decide)⟩
    · exact ⟨Nat.le_trans p3 (by decide), sub_b2 _ (mul_b r1 b2) (mul_b r2 b1) (by decide), sub_b2 _ (mul_b a1 r2) (mul_b a2 r1) (by decide)⟩
  obtain ⟨l0, -, -, -⟩ := raw2_pr h.1 h.2.1
  obtain ⟨-, -, k1, k2⟩ := h
  have s0 := stn_l l0
  have s1 := stn_b (l := (raw2 (W i) (W j) r).1) rb.1
  have s2 := stn_b (l := (raw2 (W i) (W j) r).1) rb.2.1
  have s3 := stn_b (l := (raw2 (W i) (W j) r).1) rb.2.2
  unfold cd2 at k1 k2 ⊢
  dsimp only at k1 k2
  refine ⟨by dsimp only; decide, s0, by dsimp only; omega, fun k hk => ?_⟩
  have : k = 0 ∨ k = 1 := by dsimp only at hk; omega
  rcases this with rfl | rfl
  · show 0 < stn (raw2 (W i) (W j) r).1 (raw2 (W i) (W j) r).2.1 ∧ stn (raw2 (W i) (W j) r).1 (raw2 (W i) (W j) r).2.1 ≤ 40000000000
    omega
  · show 0 < stn (raw2 (W i) (W j) r).1 (raw2 (W i) (W j) r).2.2 ∧ stn (raw2 (W i) (W j) r).1 (raw2 (W i) (W j) r).2.2 ≤ 40000000000
    omega
theorem sp_byTwo {K : gj_I → gj_J → Prop} (hL : LB42 W O n SI SJ) (hC : PB42 W n SI SJ) (hn : n ≤ 14) (hB : Wb W n) (hr : Rb r) (hV : RV r SJ) (b : Option Cd) (hb : RH b SI SJ) (hwb : WB b) (i j : Nat) (hij : i < j) (hj : j < n) (hz : crs (W i) (W j) ≠ (0, 0, 0)) (hd : dot (crs (W i) (W j)) r = 0) (h : ∀ SI' SJ', FI LIH SI SI' → FJ LJH SJ SJ' → RH (hA2 W r i j b) SI' SJ' → WB (hA2 W r i j b) → K SI' SJ') : DoI E 19 [(.ref 55), (.ref 42), (.int (i3 (i : Nat))), (.int (i3 (j : Nat)))] SI SJ (fun r5 SI6 SJ6 => (r5 = 0 → K SI6 SJ6) ∧ (¬ r5 = 0 → DoV E 22 [(.ref 55), (.int (i3 (i : Nat))), (.int (i3 (j : Nat))), (.int (i3 0))] SI6 SJ6 (fun SI8 SJ8 => K SI8 SJ8))) := by
  have hi : i < n := by omega
  have cb := cpl_b hij (show j < 14 by omega)
  obtain ⟨q1, q2, q3, -, -⟩ := hC i j hij hj trivial
  obtain ⟨v1, v2, v3⟩ := hV
  obtain ⟨x1, x2, x3, -⟩ := hL.2 i hi
  obtain ⟨y1, y2, y3, -⟩ := hL.2 j hj
  obtain ⟨p1, p2, p3⟩ := crs_b hB hi hj
  have rb := raw2c_b hB hr hi hj
  obtain ⟨o1, o2, o3⟩ := ok2_iff hz hd
  have step : ∀ (l u v : Int) (z1 z2 z3 : Int64), raw2c (W i) (W j) r = (l, u, v) → z1 = i6 u → z2 = i6 v → z3 = i6 l → DoI E 21 [(.ref 55), (.int (i3 2)), (.long z1), (.long z2), (.long (i6 0)), (.long z3)] SI SJ (fun r3 SI4 SJ4 => (r3 = 0 ∨ r3 = 1) ∧ ((r3 = 0 → K SI4 SJ4) ∧ (¬ r3 = 0 → DoV E 22 [(.ref 55), (.int (i3 (i : Nat))), (.int (i3 (j : Nat))), (.int (i3 0))] SI4 SJ4 (fun SI8 SJ8 => K SI8 SJ8)))) := by
    intro l u v z1 z2 z3 er h1 h2 h3
    subst h1; subst h2; subst h3
    rw [er] at rb o1 o2 o3
    refine sp_hstep2 (E := E) (K := K) (am := i3 2) (ax := i6 u) (ay := i6 v) (az := i6 0) (al := i6 l) (ai := i3 (i : Nat)) (aj := i3 (j : Nat)) (ak := i3 0) b (cd2 W r i j) (ok2 W r i j) u v 0 l i j 0 hb hwb rb.2.1 rb.2.2 (by decide) rb.1 ⟨by show 1 ≤ 2; decide, by show 2 ≤ 3; decide⟩ ⟨fun q => absurd q (by show ¬ 2 = 1; decide), fun _ => rfl⟩ ?_ ?_ rfl rfl rfl rfl rfl rfl rfl rfl rfl h
    · rw [o1]
      exact ⟨fun z => ⟨z.1, fun _ => z.2, fun q => absurd q (by show ¬ 2 < 2; decide)⟩, fun z => ⟨z.1, z.2.1 (by show 1 < 2; decide)⟩⟩
    · intro hp
      exact ⟨cd2_w hB hr hi hj hp, o2, fun _ => o3, fun q => absurd q (by show ¬ 2 < 2; decide)⟩
  refine st_19 _ _ SI SJ (sp_couple i j (by omega) rfl rfl ?_)
  rw [i3_in (by omega) (by omega), i3_in (by omega) (by omega), i3_in (by omega) (by omega), i3_n (by omega) (by omega), i3_n (by omega) (by omega), i3_n (by omega) (by omega), show ((cpl i j : Nat) : Int).toNat = cpl i j by omega, show ((i : Nat) : Int).toNat = i by omega, show ((j : Nat) : Int).toNat = j by omega, q1, q2, q3, v1, v2, v3, x1, x2, x3, y1, y2, y3]
  simp only [i6_mul, i6_sub]
  rw [i6_eq (by omega) (by omega) (by omega) (by omega), i6_eq (by omega) (by omega) (by omega) (by omega)]
  refine ⟨by omega, fun c => ⟨fun d => ⟨by omega, by omega, step _ _ _ _ _ _ (by unfold raw2c; rw [if_pos c, if_pos d]) rfl rfl rfl⟩, fun d => ⟨by omega, by omega, step _ _ _ _ _ _ (by unfold raw2c; rw [if_pos c, if_neg d]) rfl rfl rfl⟩⟩, fun c => ⟨by omega, by omega, step _ _ _ _ _ _ (by unfold raw2c; rw [if_neg c]) rfl rfl rfl⟩⟩
end Seek3
