/-! 37: fingers' wrenches of the reference -/
def wf (F : Nat → Int) (e : Nat) (k m q s : Int) : V3 := wr F e k (-q * ay F e + s * (m * ax F e)) (q * ax F e + s * (m * ay F e))
def fc (F : Nat → Int) : Nat := if F 30 = 0 then 1 else 2
/-- wrenches of contacts ct: (edge, step) each, by the file's tread -/
def Wl (F : Nat → Int) (ct : Nat → Nat × Int) (j : Nat) : V3 := wf F (ct (j / fc F)).1 (ct (j / fc F)).2 (F 30) (F 31) (if j % fc F = 0 then 1 else -1)
/-- tread and centre -/
def Wt (F : Nat → Int) : Prop := 0 ≤ F 30 ∧ F 30 ≤ 3 ∧ 1 ≤ F 31 ∧ F 31 ≤ 3 ∧ 0 ≤ F 32 ∧ F 32 ≤ 9 ∧ 0 ≤ F 33 ∧ F 33 ≤ 9
theorem fc_b (F : Nat → Int) : 1 ≤ fc F ∧ fc F ≤ 2 := by unfold fc; split <;> omega
theorem lo_mul {c u v : Int} (hc : 0 < c) : lox (c * u) (c * v) = lox u v ∧ loy (c * u) (c * v) = loy u v := by
  unfold lox loy
  have h1 : ((Int.gcd (c * u) (c * v) : Nat) : Int) = c * (Int.gcd u v : Nat) := by
    rw [Int.gcd_mul_left]; rw [Int.natCast_mul, show (c.natAbs : Int) = c by omega]
  rw [h1]
  exact ⟨Int.mul_tdiv_mul_of_pos _ _ hc, Int.mul_tdiv_mul_of_pos _ _ hc⟩
theorem wr_mul {F : Nat → Int} {e : Nat} {k c u v : Int} (hc : 0 < c) : wr F e k (c * u) (c * v) = wr F e k u v := by
  unfold wr; rw [(lo_mul hc).1, (lo_mul hc).2]
theorem Wp.T {F : Nat → Int} (h : Wp F) (e : Nat) : ¬ (ax F e = 0 ∧ ay F e = 0) := by
  intro q
  have h1 := h.2.2 e
  have d1 : ((stp F e : Nat) : Int) ∣ (cx F (e + 1) - cx F e) := Int.gcd_dvd_left ..
  have d2 : ((stp F e : Nat) : Int) ∣ (cy F (e + 1) - cy F e) := Int.gcd_dvd_right ..
  have e1 := Int.tdiv_mul_cancel d1
  have e2 := Int.tdiv_mul_cancel d2
  have e3 : (cx F (e + 1) - cx F e).tdiv (stp F e) = 0 := q.1
  have e4 : (cy F (e + 1) - cy F e).tdiv (stp F e) = 0 := q.2
  rw [e3, Int.zero_mul] at e1
  rw [e4, Int.zero_mul] at e2
  have : stp F e = 0 := by unfold stp; rw [← e1, ← e2]; rfl
  omega
theorem nz_force {a b m q s : Int} (hq : 1 ≤ q) (hs : s = 1 ∨ s = -1) (h : ¬ (a = 0 ∧ b = 0)) : ¬ (-q * b + s * (m * a) = 0 ∧ q * a + s * (m * b) = 0) := by
  intro z
  obtain ⟨z1, z2⟩ := z
  have k1 : (m * m + q * q) * a = 0 := by
    rcases hs with rfl | rfl
    · have : (m * m + q * q) * a = m * (-q * b + 1 * (m * a)) + q * (q * a + 1 * (m * b)) := by grind
      rw [this, z1, z2]; simp
    · have : (m * m + q * q) * a = -m * (-q * b + -1 * (m * a)) + q * (q * a + -1 * (m * b)) := by grind
      rw [this, z1, z2]; simp
  have k2 : (m * m + q * q) * b = 0 := by
    rcases hs with rfl | rfl
    · have : (m * m + q * q) * b = m * (q * a + 1 * (m * b)) - q * (-q * b + 1 * (m * a)) := by grind
      rw [this, z1, z2]; simp
    · have : (m * m + q * q) * b = -m * (q * a + -1 * (m * b)) - q * (-q * b + -1 * (m * a)) := by grind
      rw [this, z1, z2]; simp
  have hp : 0 < m * m + q * q := by
    have h1 : 0 ≤ m * m := by
      rcases Int.le_total 0 m with hm | hm
      · exact Int.mul_nonneg hm hm
      · exact Int.mul_nonneg_of_nonpos_of_nonpos hm hm
    have h2 : 0 < q * q := Int.mul_pos (by omega) (by omega)
    omega
  have ha : a = 0 := by
    rcases Int.mul_eq_zero.mp k1 with y | y
    · omega
    · exact y
  have hb : b = 0 := by
    rcases Int.mul_eq_zero.mp k2 with y | y
    · omega
    · exact y
  exact h ⟨ha, hb⟩
theorem force_b {a b m q s : Int} (ha : a.natAbs ≤ 9) (hb : b.natAbs ≤ 9) (hm : 0 ≤ m ∧ m ≤ 3) (hq : 1 ≤ q ∧ q ≤ 3) (hs : s = 1 ∨ s = -1) : (-q * b + s * (m * a)).natAbs ≤ 60 ∧ (q * a + s * (m * b)).natAbs ≤ 60 := by
  have h1 := mul_b (a := -q) (b := b) (m := 3) (n := 9) (by omega) hb
  have h2 := mul_b (a := m) (b := a) (m := 3) (n := 9) (by omega) ha
  have h3 := mul_b (a := q) (b := a) (m := 3) (n := 9) (by omega) ha
  have h4 := mul_b (a := m) (b := b) (m := 3) (n := 9) (by omega) hb
  rcases hs with rfl | rfl
  · omega
  · omega
section Lays
variable {E : gj_E} {SI : gj_I} {SJ : gj_J} {F : Nat → Int}
theorem LW.add {W : Nat → V3} {O : Nat → Int} {n : Nat} (h : LW W O n SI SJ) : LW W O (n + 1) (gj_u2 (gj_u2 SI 88 n (i3 (O n))) 81 8 (i3 ((n + 1 : Nat) : Int))) (gj_w2 (gj_w2 (gj_w2 SJ 85 n (i6 (W n).1)) 86 n (i6 (W n).2.1)) 87 n (i6 (W n).2.2)) := by
  refine ⟨u2_s, fun j hj => ?_⟩
  rw [u2_n (by omega), w2_n (by omega), w2_n (by omega)]
  rcases Nat.lt_or_ge j n with q | q
  · obtain ⟨h1, h2, h3, h4⟩ := h.2 j q
    rw [w2_n (by omega), w2_n (by omega), w2_n (by omega), w2_n (by omega), w2_n (by omega), w2_n (by omega), w2_n (by omega), u2_n (by omega)]
    exact ⟨h1, h2, h3, h4⟩
  · have : j = n := by omega
    subst this
    rw [w2_s, w2_n (by omega), w2_s, w2_s, u2_s]
    exact ⟨rfl, rfl, rfl, rfl⟩
theorem FI_add {A : gj_I} {n : Nat} {x y : Int32} (h : FI LI1 A SI) : FI LI1 A (gj_u2 (gj_u2 SI 88 n x) 81 8 y) := (h.u (Or.inl rfl)).u (Or.inr ⟨rfl, rfl⟩)
theorem FJ_add {A : gj_J} {n : Nat} {x y z : Int64} (h : FJ LJ1 A SJ) : FJ LJ1 A (gj_w2 (gj_w2 (gj_w2 SJ 85 n x) 86 n y) 87 n z) := ((h.w (Or.inl rfl)).w (Or.inr (Or.inl rfl))).w (Or.inr (Or.inr (Or.inl rfl)))
theorem sp_comesFinger {Q : gj_I → gj_J → Prop} {a b g : Int32} {ct : Nat → Nat × Int} {O : Nat → Int} (hR : RF F SI) (hW : Wp F) (hT : Wt F) (i : Nat) (he : (ct i).1 < 900) (hk : 0 ≤ (ct i).2 ∧ (ct i).2 ≤ 9) (hi : i < 7) (hL : LW (Wl F ct) (fun j => O (j / fc F)) (i * fc F) SI SJ) (ha : a = i3 (ct i).1) (hb : b = i3 (ct i).2) (hg : g = i3 (O i)) (h : ∀ SI' SJ', FI LI1 SI SI' → FJ LJ1 SJ SJ' → LW (Wl F ct) (fun j => O (j / fc F)) ((i + 1) * fc F) SI' SJ' → Q SI' SJ') : DoV E 183 [(.ref 81), (.int a), (.int b), (.int g)] SI SJ Q := by
  subst ha; subst hb; subst hg
  have hs := hW.2.2 (ct i).1
  have b2 := hW.1.a (ct i).1
  have hTn := hW.T (ct i).1
  obtain ⟨t1, t2, t3, t4, t5, t6, t7, t8⟩ := hT
  refine st_183 _ _ _ SI SJ (sp_alongX hR hW.1 _ he hs rfl (sp_alongY hR hW.1 _ he hs rfl ?_))
  rw [hR 30 (by decide), hR 31 (by decide), i3_64 (by omega) (by omega), i3_64 (by omega) (by omega), i3_64 (by omega) (by omega), i3_64 (by omega) (by omega), i6_eq (by omega) (by omega) (by omega) (by omega)]
  simp only [i6_neg, i6_mul, i6_add, i6_sub]
  refine ⟨fun hm => ?_, fun hm => ?_⟩
  · have hfc : fc F = 2 := by unfold fc; rw [if_neg hm]
    rw [hfc] at hL h
    obtain ⟨f1, f2⟩ := force_b (a := ax F (ct i).1) (b := ay F (ct i).1) (m := F 30) (q := F 31) (s := 1) (by omega) (by omega) ⟨t1, t2⟩ ⟨t3, t4⟩ (Or.inl rfl)
    obtain ⟨f3, f4⟩ := force_b (a := ax F (ct i).1) (b := ay F (ct i).1) (m := F 30) (q := F 31) (s := -1) (by omega) (by omega) ⟨t1, t2⟩ ⟨t3, t4⟩ (Or.inr rfl)
    have z1 := nz_force (m := F 30) (s := 1) t3 (Or.inl rfl) hTn
    have z2 := nz_force (m := F 30) (s := -1) t3 (Or.inr rfl) hTn
    have w1 : Wl F ct (i * 2) = wf F (ct i).1 (ct i).2 (F 30) (F 31) 1 := by
      unfold Wl; rw [hfc, show i * 2 / 2 = i by omega, if_pos (by omega)]
    have w2 : Wl F ct (i * 2 + 1) = wf F (ct i).1 (ct i).2 (F 30) (F 31) (-1) := by
      unfold Wl; rw [hfc, show (i * 2 + 1) / 2 = i by omega, if_neg (by omega)]
    have o1 : O (i * 2 / 2) = O i := by rw [show i * 2 / 2 = i by omega]
    have o2 : O ((i * 2 + 1) / 2) = O i := by rw [show (i * 2 + 1) / 2 = i by omega]
    refine sp_comesForce hR hW (ct i).1 (ct i).2 (-(F 31) * ay F (ct i).1 + 1 * (F 30 * ax F (ct i).1)) (F 31 * ax F (ct i).1 + 1 * (F 30 * ay F (ct i).1)) (i * 2) he hk f1 f2 z1 ⟨t5, t6, t7, t8⟩ (by omega) hL.1 rfl rfl (i6_c (by omega)) (i6_c (by omega)) ?_
    have hL2 := hL.add
    rw [w1, o1] at hL2
    have hR2 : RF F (gj_u2 (gj_u2 SI 88 (i * 2) (i3 (O i))) 81 8 (i3 ((i * 2 + 1 : Nat) : Int))) := hR.f (FI_add FI.rf) (fun k z => by rcases z with z | z <;> omega)
    refine sp_comesForce hR2 hW (ct i).1 (ct i).2 (-(F 31) * ay F (ct i).1 + -1 * (F 30 * ax F (ct i).1)) (F 31 * ax F (ct i).1 + -1 * (F 30 * ay F (ct i).1)) (i * 2 + 1) he hk f3 f4 z2 ⟨t5, t6, t7, t8⟩ (by omega) hL2.1 rfl rfl (i6_c (by omega)) (i6_c (by omega)) ?_
    have hL3 := hL2.add
    rw [w2, o2] at hL3
    rw [show i * 2 + 1 + 1 = (i + 1) * 2 by omega] at hL3 ⊢
    exact h _ _ (FI_add (FI_add FI.rf)) (FJ_add (FJ_add FJ.rf)) hL3
  · have hfc : fc F = 1 := by unfold fc; rw [if_pos hm]
    rw [hfc] at hL h
    have z1 := nz_force (m := 0) (q := 1) (s := 1) (by omega) (Or.inl rfl) hTn
    have w1 : Wl F ct (i * 1) = wr F (ct i).1 (ct i).2 (-ay F (ct i).1) (ax F (ct i).1) := by
      unfold Wl wf; rw [hfc, show i * 1 / 1 = i by omega, if_pos (by omega), hm, ← wr_mul (c := F 31) (u := -ay F (ct i).1) (v := ax F (ct i).1) (by omega)]
      congr 1
      · grind
      · grind
    have o1 : O (i * 1 / 1) = O i := by rw [show i * 1 / 1 = i by omega]
    refine sp_comesForce hR hW (ct i).1 (ct i).2 (-ay F (ct i).1) (ax F (ct i).1) (i * 1) he hk (by omega) (by omega) (by omega) ⟨t5, t6, t7, t8⟩ (by omega) hL.1 rfl rfl rfl rfl ?_
    have hL2 := hL.add
    rw [w1, o1, show i * 1 + 1 = (i + 1) * 1 by omega] at hL2
    rw [show i * 1 + 1 = (i + 1) * 1 by omega]
    exact h _ _ (FI_add FI.rf) (FJ_add FJ.rf) hL2
end Lays
