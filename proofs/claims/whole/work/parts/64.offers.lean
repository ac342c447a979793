/-! 64: the reference's offers -/
/-- one more that holds: the better of the two -/
def stepB (b : Option Cd) (c : Cd) : Option Cd := match b with
  | none => some c
  | some d => if sumC c * d.2.2.2 < sumC d * c.2.2.2 then some c else some d
def RB (b : Option Cd) (SI : gj_I) (SJ : gj_J) : Prop := match b with
  | none => SI 81 29 = i3 (-1)
  | some c => SI 81 29 = i3 c.1 ∧ SJ 81 30 = i6 (lox (sumC c) c.2.2.2) ∧ SJ 81 31 = i6 (loy (sumC c) c.2.2.2) ∧ ∀ k, k < c.1 → SI 94 k = i3 ((ck c.2.1 k : Nat) : Int) ∧ SJ 95 k = i6 (lox (ck c.2.2.1 k) c.2.2.2) ∧ SJ 96 k = i6 (loy (ck c.2.2.1 k) c.2.2.2)
def WB (b : Option Cd) : Prop := match b with
  | none => True
  | some c => WC c
theorem lo_gcd {u l : Int} (hl : 0 < l) : 0 < ((Int.gcd u l : Nat) : Int) ∧ lox u l * ((Int.gcd u l : Nat) : Int) = u ∧ loy u l * ((Int.gcd u l : Nat) : Int) = l := by
  refine ⟨?_, Int.tdiv_mul_cancel (Int.gcd_dvd_left ..), Int.tdiv_mul_cancel (Int.gcd_dvd_right ..)⟩
  rcases Nat.eq_zero_or_pos (Int.gcd u l) with q | q
  · have := (Int.gcd_eq_zero_iff.mp q).2; omega
  · exact Int.natCast_pos.mpr q
theorem lo_pos {u l : Int} (hl : 0 < l) : 0 < loy u l ∧ loy u l ≤ l ∧ (lox u l).natAbs ≤ u.natAbs ∧ (0 ≤ u → 0 ≤ lox u l) ∧ (0 < u → 0 < lox u l) := by
  obtain ⟨h1, h2, h3⟩ := lo_gcd (u := u) hl
  have b := lo_b u l
  refine ⟨?_, by omega, b.1, fun h => ?_, fun h => ?_⟩
  · rcases Int.lt_or_le 0 (loy u l) with q | q
    · exact q
    · have := Int.mul_nonpos_of_nonpos_of_nonneg q (Int.le_of_lt h1); omega
  · rcases Int.lt_or_le (lox u l) 0 with q | q
    · have := Int.mul_neg_of_neg_of_pos q h1; omega
    · exact q
  · rcases Int.lt_or_le 0 (lox u l) with q | q
    · exact q
    · have := Int.mul_nonpos_of_nonpos_of_nonneg q (Int.le_of_lt h1); omega
theorem lo_cmp {u l U L : Int} (hl : 0 < l) (hL : 0 < L) : lox u l * loy U L < lox U L * loy u l ↔ u * L < U * l := by
  obtain ⟨h1, h2, h3⟩ := lo_gcd (u := u) hl
  obtain ⟨g1, g2, g3⟩ := lo_gcd (u := U) hL
  generalize lox u l = x at *
  generalize loy u l = y at *
  generalize lox U L = X at *
  generalize loy U L = Y at *
  generalize ((Int.gcd u l : Nat) : Int) = g at *
  generalize ((Int.gcd U L : Nat) : Int) = h at *
  have e1 : u * L = (g * h) * (x * Y) := by rw [← h2, ← g3]; grind
  have e2 : U * l = (g * h) * (X * y) := by rw [← g2, ← h3]; grind
  rw [e1, e2]
  exact (Int.mul_lt_mul_left (Int.mul_pos h1 g1)).symm
theorem sumK_b {t : Int × Int × Int} {m : Nat} (h : ∀ k, k < m → 0 < ck t k ∧ ck t k ≤ 40000000000) : ∀ k, k ≤ m → 0 ≤ sumK t k ∧ sumK t k ≤ 40000000000 * k ∧ (0 < k → 0 < sumK t k) := by
  intro k
  induction k with
  | zero => intro _; exact ⟨Int.le_refl 0, Int.le_refl 0, fun z => absurd z (Nat.lt_irrefl 0)⟩
  | succ k ih =>
    intro hk
    have h1 := ih (by omega)
    have h2 := h k (by omega)
    show 0 ≤ sumK t k + ck t k ∧ sumK t k + ck t k ≤ 40000000000 * ((k + 1 : Nat) : Int) ∧ (0 < k + 1 → 0 < sumK t k + ck t k)
    omega
theorem sumC_b {c : Cd} (h : WC c) : 0 ≤ sumC c ∧ sumC c ≤ 120000000000 := by
  have := sumK_b (t := c.2.2.1) (m := c.1) h.2.2.2 c.1 (Nat.le_refl _)
  have h1 := h.1
  unfold sumC; omega
def LIo (o k : Nat) : Prop := o = 94 ∨ (o = 81 ∧ k = 29)
def LJo (o k : Nat) : Prop := o = 95 ∨ o = 96 ∨ (o = 81 ∧ (k = 30 ∨ k = 31))
section Offers
variable {E : gj_E} {SI : gj_I} {SJ : gj_J}
theorem sp_offers_2 {Q : gj_I → gj_J → Prop} (c : Cd) (hw : WC c) (A : gj_I) (B : gj_J) (hC : CH c A B) (h0 : A 81 29 = i3 c.1) (h1 : B 81 30 = i6 (lox (sumC c) c.2.2.2)) (h2 : B 81 31 = i6 (loy (sumC c) c.2.2.2)) (h : ∀ SI' SJ', FI LIo A SI' → FJ LJo B SJ' → RB (some c) SI' SJ' → Q SI' SJ') : GoV E mt_226 97 [some (.ref 81), some (.int (i3 c.1)), none, none, none, none, some (.int (i3 0))] A B Q := by
  obtain ⟨w1, w2, w3, w4⟩ := hw
  refine up_lp (α := Unit) (P := fun i _ A' B' => FI LIo A A' ∧ FJ LJo B B' ∧ CH c A' B' ∧ A' 81 29 = i3 c.1 ∧ B' 81 30 = i6 (lox (sumC c) c.2.2.2) ∧ B' 81 31 = i6 (loy (sumC c) c.2.2.2) ∧ ∀ k, k < i → A' 94 k = i3 ((ck c.2.1 k : Nat) : Int) ∧ B' 95 k = i6 (lox (ck c.2.2.1 k) c.2.2.2) ∧ B' 96 k = i6 (loy (ck c.2.2.1 k) c.2.2.2)) (G := fun i _ A' B' => GoV E mt_226 97 [some (.ref 81), some (.int (i3 c.1)), none, none, none, none, some (.int (i3 i))] A' B' Q) c.1 ?_ ?_ 0 () A B (by omega) ⟨FI.rf, FJ.rf, hC, h0, h1, h2, fun k hk => absurd hk (Nat.not_lt_zero k)⟩
  · rintro _ A' B' ⟨f1, f2, g1, g2, g3, g4, g5⟩
    refine lp_226_97 _ _ A' B' ⟨fun _ => h A' B' f1 f2 ⟨g2, g3, g4, g5⟩, fun z => ?_⟩
    rw [i3_le (by omega) (by omega) (by omega) (by omega)] at z; omega
  · rintro i _ A' B' hi ⟨f1, f2, g1, g2, g3, g4, g5⟩ ih
    obtain ⟨k1, k2⟩ := g1
    obtain ⟨k3, k4⟩ := k2 i hi
    have wi := w4 i hi
    have lg := lo_gcd (u := ck c.2.2.1 i) w2
    have gl : ((Int.gcd (ck c.2.2.1 i) c.2.2.2 : Nat) : Int) ≤ 30000000 := by
      have := Int.gcd_le_right (a := ck c.2.2.1 i) (b := c.2.2.2) w2; omega
    refine lp_226_97 _ _ A' B' ⟨fun z => ?_, fun z => ⟨by rw [i3_in (by omega) (by omega)]; omega, ?_⟩⟩
    · rw [i3_le (by omega) (by omega) (by omega) (by omega)] at z; omega
    · rw [i3_n (by omega) (by omega), show ((i : Nat) : Int).toNat = i by omega, k3, k1, k4]
      refine sp_common (by omega) (by omega) (by omega) (by omega) ?_
      rw [i6_eq0 (by omega) (by omega), i6_div (by omega) (by omega) (by omega) (by omega)]
      refine ⟨by omega, ?_⟩
      rw [k3, k1]
      refine sp_common (by omega) (by omega) (by omega) (by omega) ?_
      rw [i6_eq0 (by omega) (by omega), i6_div (by omega) (by omega) (by omega) (by omega), i3_add]
      refine ⟨by omega, ih () _ _ ⟨f1.u (Or.inl rfl), (f2.w (Or.inl rfl)).w (Or.inr (Or.inl rfl)), ⟨by rw [w2_n (by omega), w2_n (by omega)]; exact k1, fun k hk => ?_⟩, by rw [u2_n (by omega)]; exact g2, by rw [w2_n (by omega), w2_n (by omega)]; exact g3, by rw [w2_n (by omega), w2_n (by omega)]; exact g4, fun k hk => ?_⟩⟩
      · rw [w2_n (by omega), w2_n (by omega), u2_n (by omega)]; exact k2 k hk
      · by_cases q : k = i
        · subst q
          rw [u2_s, w2_n (by omega), w2_s, w2_s]; exact ⟨rfl, rfl, rfl⟩
        · rw [u2_n (by omega), w2_n (by omega), w2_n (by omega), w2_n (by omega), w2_n (by omega)]; exact g5 k (by omega)
theorem sp_offers {Q : gj_I → gj_J → Prop} {a : Int32} (b : Option Cd) (c : Cd) (hw : WC c) (hc1 : 1 ≤ c.1) (hwb : WB b) (hC : CH c SI SJ) (hb : RB b SI SJ) (ha : a = i3 c.1) (h : ∀ SI' SJ', FI LIo SI SI' → FJ LJo SJ SJ' → RB (stepB b c) SI' SJ' → Q SI' SJ') : DoV E 226 [(.ref 81), (.int a)] SI SJ Q := by
  subst ha
  have sb := sumC_b hw
  have hw2 := hw
  obtain ⟨w1, w2, w3, w4⟩ := hw2
  obtain ⟨k1, k2⟩ := hC
  have sk := sumK_b w4
  refine st_226 _ SI SJ ?_
  refine up_lp (α := Unit) (P := fun i _ A B => A = SI ∧ B = SJ) (G := fun i _ A B => GoV E mt_226 5 [some (.ref 81), some (.int (i3 c.1)), some (.long (i6 (sumK c.2.2.1 i))), none, some (.int (i3 i)), none, none] A B Q) c.1 ?_ ?_ 0 () SI SJ (by omega) ⟨rfl, rfl⟩
  · rintro _ A B ⟨rfl, rfl⟩
    refine lp_226_5 _ _ _ A B ⟨fun _ => ?_, fun z => ?_⟩
    · rw [k1, show sumK c.2.2.1 c.1 = sumC c from rfl]
      have sc : 0 < sumC c := (sk c.1 (Nat.le_refl _)).2.2 (by omega)
      have lg := lo_gcd (u := sumC c) w2
      have lp := lo_pos (u := sumC c) w2
      have gl : ((Int.gcd (sumC c) c.2.2.2 : Nat) : Int) ≤ 30000000 := by
        have := Int.gcd_le_right (a := sumC c) (b := c.2.2.2) w2; omega
      refine sp_common (by omega) (by omega) (by omega) (by omega) ?_
      have e1 : (sumC c).tdiv ((Int.gcd (sumC c) c.2.2.2 : Nat) : Int) = lox (sumC c) c.2.2.2 := rfl
      have e2 : (c.2.2.2).tdiv ((Int.gcd (sumC c) c.2.2.2 : Nat) : Int) = loy (sumC c) c.2.2.2 := rfl
      rw [k1, i6_eq0 (by omega) (by omega), i6_div (by omega) (by omega) (by omega) (by omega), i6_div (by omega) (by omega) (by omega) (by omega), e1, e2]
      have go : stepB b c = some c → GoV E mt_226 97 [some (.ref 81), some (.int (i3 c.1)), none, none, none, none, some (.int (i3 0))] (gj_u2 A 81 29 (i3 c.1)) (gj_w2 (gj_w2 B 81 30 (i6 (lox (sumC c) c.2.2.2))) 81 31 (i6 (loy (sumC c) c.2.2.2))) Q := by
        intro es
        rw [es] at h
        refine sp_offers_2 c hw _ _ ⟨by rw [w2_n (by omega), w2_n (by omega)]; exact k1, fun k hk => ?_⟩ u2_s (by rw [w2_n (by omega), w2_s]) w2_s (fun A' B' f1 f2 g => h A' B' ((FI.rf.u (Or.inr ⟨rfl, rfl⟩)).tr f1) (((FJ.rf.w (Or.inr (Or.inr ⟨rfl, Or.inl rfl⟩))).w (Or.inr (Or.inr ⟨rfl, Or.inr rfl⟩))).tr f2) g)
        rw [w2_n (by omega), w2_n (by omega), u2_n (by omega)]; exact k2 k hk
      cases b with
      | none =>
        have hb' : A 81 29 = i3 (-1) := hb
        rw [hb']
        exact ⟨fun _ => ⟨by omega, go rfl⟩, fun z => absurd (by decide) z⟩
      | some d =>
        obtain ⟨d0, d1, d2, d3⟩ := hb
        have hwd : WC d := hwb
        have sbd := sumC_b hwd
        obtain ⟨v1, v2, v3, v4⟩ := hwd
        have lpd := lo_pos (u := sumC d) v2
        rw [d0, d1, d2]
        simp only [i6_mul]
        have m1 := mul_b (a := lox (sumC c) c.2.2.2) (b := loy (sumC d) d.2.2.2) (m := 120000000000) (n := 30000000) (by omega) (by omega)
        have m2 := mul_b (a := lox (sumC d) d.2.2.2) (b := loy (sumC c) c.2.2.2) (m := 120000000000) (n := 30000000) (by omega) (by omega)
        rw [i6_lt (by omega) (by omega) (by omega) (by omega), lo_cmp w2 v2, i3_lt0 (by omega) (by omega)]
        refine ⟨fun z => by omega, fun _ => ⟨by omega, fun z => go (if_pos z), fun z => ?_⟩⟩
        have es : stepB (some d) c = some d := if_neg z
        rw [es] at h
        exact h A B FI.rf FJ.rf ⟨d0, d1, d2, d3⟩
    · rw [i3_le (by omega) (by omega) (by omega) (by omega)] at z; omega
  · rintro i _ A B hi ⟨rfl, rfl⟩ ih
    obtain ⟨k3, k4⟩ := k2 i hi
    refine lp_226_5 _ _ _ A B ⟨fun z => ?_, fun z => ⟨by rw [i3_in (by omega) (by omega)]; omega, ?_⟩⟩
    · rw [i3_le (by omega) (by omega) (by omega) (by omega)] at z; omega
    · rw [i3_n (by omega) (by omega), show ((i : Nat) : Int).toNat = i by omega, k3, i6_add, i3_add]
      exact ih () A B ⟨rfl, rfl⟩
end Offers
