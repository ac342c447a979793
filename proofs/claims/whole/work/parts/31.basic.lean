/-! 31: small helps of both programs -/
theorem i3_ofNat (n : Nat) : Int32.ofNat n = i3 n := Int32.ofInt_eq_ofNat.symm
theorem i6_ofNat (n : Nat) : Int64.ofNat n = i6 n := Int64.ofInt_eq_ofNat.symm
def ib (p : Prop) [Decidable p] : Int32 := if p then i3 1 else i3 0
theorem ib_t {p : Prop} [Decidable p] (h : p) : ib p = i3 1 := if_pos h
theorem ib_f {p : Prop} [Decidable p] (h : ¬ p) : ib p = i3 0 := if_neg h
theorem ib_0 {p : Prop} [Decidable p] : ib p = 0 ↔ ¬ p := by
  by_cases h : p
  · rw [ib_t h]; exact ⟨fun q => absurd q (by decide), fun q => absurd h q⟩
  · rw [ib_f h]; exact ⟨fun _ => h, fun _ => rfl⟩
theorem ib_01 {p : Prop} [Decidable p] : ib p = 0 ∨ ib p = 1 := by
  by_cases h : p
  · rw [ib_t h]; exact Or.inr rfl
  · rw [ib_f h]; exact Or.inl rfl
theorem ib_iff {p q : Prop} [Decidable p] [Decidable q] (h : p ↔ q) : ib p = ib q := by
  by_cases hp : p
  · rw [ib_t hp, ib_t (h.mp hp)]
  · rw [ib_f hp, ib_f (fun z => hp (h.mpr z))]
theorem i6_remN {a b : Nat} (ha : a < 9223372036854775808) (h0 : 0 < b) (hb : b < 9223372036854775808) : i6 a - i6 a / i6 b * i6 b = i6 ((a % b : Nat) : Int) := by
  have := pk_lRem (a := a) (b := b) (by simpa using ha) h0 (by simpa using hb)
  simp only [lN, i6_ofNat] at this
  exact this
theorem i6_divN {a b : Nat} (ha : a < 9223372036854775808) (h0 : 0 < b) (hb : b < 9223372036854775808) : i6 a / i6 b = i6 ((a / b : Nat) : Int) := by
  have := pk_lDiv (a := a) (b := b) (by simpa using ha) h0 (by simpa using hb)
  simp only [lN, i6_ofNat] at this
  exact this
theorem i3_remN {a b : Nat} (ha : a < 2147483648) (h0 : 0 < b) (hb : b < 2147483648) : i3 a - i3 a / i3 b * i3 b = i3 ((a % b : Nat) : Int) := by
  have := pk_rem (a := a) (d := b) (by simpa using ha) h0 (by simpa using hb)
  simp only [nI, i3_ofNat] at this
  exact this
theorem i3_divN {a b : Nat} (ha : a < 2147483648) (h0 : 0 < b) (hb : b < 2147483648) : i3 a / i3 b = i3 ((a / b : Nat) : Int) := by
  have := pk_div (a := a) (d := b) (by simpa using ha) h0 (by simpa using hb)
  simp only [nI, i3_ofNat] at this
  exact this
-- bits of a small set
theorem i3_bit {s k : Nat} (hs : s < 2147483648) (hk : k < 32) : ((i3 s >>> (i3 k &&& 31)) &&& i3 1) = i3 ((s / 2 ^ k % 2 : Nat) : Int) := by
  have h1 : i3 s >>> (i3 k &&& 31) = i3 ((s / 2 ^ k : Nat) : Int) := by
    have := pk_shrN (n := s) (by simpa using hs) (nI k &&& 31) k ((by decide : ∀ n, n < 32 → ((nI n &&& 31).toBitVec.smod 32).toNat = n) k hk)
    simp only [nI, i3_ofNat] at this
    exact this
  rw [h1]
  have h3 : s / 2 ^ k < 2 ^ 32 := Nat.lt_of_le_of_lt (Nat.div_le_self _ _) (by omega)
  have := pk_andN (n := s / 2 ^ k) h3 (m := 1) 1 (by decide)
  simp only [nI, i3_ofNat] at this
  exact this
theorem bit_ib {s k : Nat} : s / 2 ^ k % 2 = if s.testBit k then 1 else 0 := by
  rw [Nat.testBit_eq_decide_div_mod_eq]
  have : s / 2 ^ k % 2 = 0 ∨ s / 2 ^ k % 2 = 1 := by omega
  rcases this with h | h <;> simp [h]
theorem i3_shl {k : Nat} (hk : k < 31) : i3 1 <<< (i3 k &&& 31) = i3 ((2 ^ k : Nat) : Int) := by
  have := (by decide : ∀ k, k < 31 → i3 1 <<< (Int32.ofNat k &&& 31) = Int32.ofNat (2 ^ k)) k hk
  simp only [i3_ofNat] at this
  exact this
section Basic
variable {E : gj_E} {SI : gj_I} {SJ : gj_J}
theorem sp_in {Q : Int32 → gj_I → gj_J → Prop} {a b c : Int} (h1 : -9223372036854775808 ≤ a) (h2 : a < 9223372036854775808) (h3 : -9223372036854775808 ≤ b) (h4 : b < 9223372036854775808) (h5 : -9223372036854775808 ≤ c) (h6 : c < 9223372036854775808) (h : Q (ib (b ≤ a ∧ a ≤ c)) SI SJ) : DoI E 155 [(.long (i6 a)), (.long (i6 b)), (.long (i6 c))] SI SJ Q := by
  refine st_155 _ _ _ SI SJ ⟨fun c1 => ?_, fun c1 => ⟨fun c2 => ?_, fun c2 => ?_⟩⟩
  · rw [i6_lt h1 h2 h3 h4] at c1; rw [ib_f (by omega)] at h; exact h
  · rw [i6_lt h1 h2 h3 h4] at c1; rw [gt_iff_lt, i6_lt h5 h6 h1 h2] at c2; rw [ib_f (by omega)] at h; exact h
  · rw [i6_lt h1 h2 h3 h4] at c1; rw [gt_iff_lt, i6_lt h5 h6 h1 h2] at c2; rw [ib_t (by omega)] at h; exact h
theorem sp_min {Q : Int32 → gj_I → gj_J → Prop} {a b : Int} (h1 : -2147483648 ≤ a) (h2 : a < 2147483648) (h3 : -2147483648 ≤ b) (h4 : b < 2147483648) (h : Q (i3 (min a b)) SI SJ) : DoI E 156 [(.int (i3 a)), (.int (i3 b))] SI SJ Q := by
  refine st_156 _ _ SI SJ ⟨fun c1 => ?_, fun c1 => ?_⟩
  · rw [i3_le h3 h4 h1 h2] at c1; rw [Int.min_def, show (if a ≤ b then a else b) = b by split <;> omega] at h; exact h
  · rw [i3_le h3 h4 h1 h2] at c1; rw [Int.min_def, if_pos (by omega)] at h; exact h
theorem sp_max {Q : Int32 → gj_I → gj_J → Prop} {a b : Int} (h1 : -2147483648 ≤ a) (h2 : a < 2147483648) (h3 : -2147483648 ≤ b) (h4 : b < 2147483648) (h : Q (i3 (max a b)) SI SJ) : DoI E 157 [(.int (i3 a)), (.int (i3 b))] SI SJ Q := by
  refine st_157 _ _ SI SJ ⟨fun c1 => ?_, fun c1 => ?_⟩
  · rw [i3_le h1 h2 h3 h4] at c1; rw [Int.max_def, if_pos c1] at h; exact h
  · rw [i3_le h1 h2 h3 h4] at c1; rw [Int.max_def, if_neg c1] at h; exact h
theorem sp_size {Q : Int64 → gj_I → gj_J → Prop} {a : Int} (h1 : -9223372036854775808 ≤ a) (h2 : a < 9223372036854775808) (h : Q (i6 (a.natAbs : Int)) SI SJ) : DoL E 158 [(.long (i6 a))] SI SJ Q := by
  refine st_158 _ SI SJ ⟨fun c1 => ?_, fun c1 => ?_⟩
  · rw [ge_iff_le, i6_le (by omega) (by omega) h1 h2] at c1; rw [show (a.natAbs : Int) = a by omega] at h; exact h
  · rw [ge_iff_le, i6_le (by omega) (by omega) h1 h2] at c1; rw [i6_neg]; rw [show (a.natAbs : Int) = -a by omega] at h; exact h
theorem sp_has {Q : Int32 → gj_I → gj_J → Prop} {s k : Nat} (hs : s < 2147483648) (hk : k < 32) (h : Q (ib (s.testBit k = true)) SI SJ) : DoI E 159 [(.int (i3 s)), (.int (i3 k))] SI SJ Q := by
  refine st_159 _ _ SI SJ ?_
  rw [i3_bit hs hk, bit_ib]
  refine ⟨fun c1 => ?_, fun c1 => ?_⟩
  · cases hb : s.testBit k
    · rw [ib_f (by rw [hb]; decide)] at h; exact h
    · rw [hb] at c1; exact absurd rfl c1
  · cases hb : s.testBit k
    · rw [hb] at c1; exact absurd c1 (by decide)
    · rw [ib_t hb] at h; exact h
theorem sp_common_lp {Q : Int64 → gj_I → gj_J → Prop} : ∀ (n x y : Nat), y ≤ n → x < 9223372036854775808 → y < 9223372036854775808 → Q (i6 (Nat.gcd x y : Nat)) SI SJ → GoL E mt_161 12 [none, none, none, none, some (.long (i6 x)), none, some (.long (i6 y)), none, none, none] SI SJ Q := by
  intro n
  induction n with
  | zero =>
    intro x y hy hx h2 h
    have : y = 0 := by omega
    subst this
    refine lp_161_12 _ _ SI SJ ⟨fun c => ?_, fun c => absurd rfl c⟩
    rw [Nat.gcd_zero_right] at h; exact h
  | succ n ih =>
    intro x y hy hx h2 h
    refine lp_161_12 _ _ SI SJ ⟨fun c => ?_, fun c => ⟨?_, ?_⟩⟩
    · rw [i6_eq (by omega) (by omega) (by omega) (by omega)] at c
      have : y = 0 := by omega
      subst this
      rw [Nat.gcd_zero_right] at h; exact h
    · exact c
    · rw [i6_eq (by omega) (by omega) (by omega) (by omega)] at c
      have h0 : 0 < y := by omega
      rw [i6_remN hx h0 h2]
      have hm := Nat.mod_lt x h0
      refine ih y (x % y) (by omega) h2 (by omega) ?_
      rw [show Nat.gcd y (x % y) = Nat.gcd x y by rw [Nat.gcd_comm x y, Nat.gcd_comm y (x % y)]; exact (Nat.gcd_rec y x).symm]
      exact h
theorem sp_common {Q : Int64 → gj_I → gj_J → Prop} {a b : Int} (h1 : -9223372036854775808 < a) (h2 : a < 9223372036854775808) (h3 : -9223372036854775808 < b) (h4 : b < 9223372036854775808) (h : Q (i6 (Int.gcd a b : Nat)) SI SJ) : DoL E 161 [(.long (i6 a)), (.long (i6 b))] SI SJ Q := by
  refine st_161 _ _ SI SJ ?_
  refine sp_size (by omega) h2 (sp_size (by omega) h4 ?_)
  exact sp_common_lp _ _ _ (Nat.le_refl _) (by omega) (by omega) h
theorem sp_signOf {Q : Int32 → gj_I → gj_J → Prop} {a : Int} (h1 : -9223372036854775808 ≤ a) (h2 : a < 9223372036854775808) (h : Q (i3 a.sign) SI SJ) : DoI E 171 [(.long (i6 a))] SI SJ Q := by
  refine st_171 _ SI SJ ?_
  rw [ge_iff_le, i6_le h1 h2 (by omega) (by omega), i6_le (by omega) (by omega) h1 h2]
  refine ⟨fun c1 => ⟨fun c2 => ?_, fun c2 => ?_⟩, fun c1 => ?_⟩
  · rw [show a = 0 by omega] at h; exact h
  · rw [Int.sign_eq_neg_one_of_neg (by omega)] at h; exact h
  · rw [Int.sign_eq_one_of_pos (by omega)] at h; exact h
-- the class's divisor: at most 200 turns
theorem half_mod {y r : Nat} (h0 : 0 < r) (h1 : r < y) : y % r * 2 < y := by
  have h2 := Nat.mod_lt y h0
  have h3 := Nat.div_add_mod y r
  have h4 : 1 ≤ y / r := (Nat.one_le_div_iff h0).mpr (Nat.le_of_lt h1)
  have h5 : r * 1 ≤ r * (y / r) := Nat.mul_le_mul_left r h4
  omega
theorem gcd_step (x y : Nat) : Nat.gcd y (x % y) = Nat.gcd x y := by rw [Nat.gcd_comm x y, Nat.gcd_comm y (x % y)]; exact (Nat.gcd_rec y x).symm
theorem i6_remT {a b : Int} (h1 : a.natAbs < 9223372036854775808) (h2 : b.natAbs < 9223372036854775808) : i6 a - i6 a / i6 b * i6 b = i6 (a.tmod b) := by
  rw [i6_div (by omega) (by omega) (by omega) (by omega), i6_mul, i6_sub, Int.tmod_def, Int.mul_comm]
theorem gcd_stepI (x y : Int) : Int.gcd y (x.tmod y) = Int.gcd x y := by
  show Nat.gcd y.natAbs (x.tmod y).natAbs = Nat.gcd x.natAbs y.natAbs
  rw [Int.natAbs_tmod]
  exact gcd_step _ _
theorem dv_end {Q : Int64 → gj_I → gj_J → Prop} {x : Int} (hx : x.natAbs < 9223372036854775808) (h : Q (i6 (x.natAbs : Nat)) SI SJ) : (i6 x ≥ i6 0 → Q (i6 x) SI SJ) ∧ (¬ i6 x ≥ i6 0 → Q (-i6 x) SI SJ) := by
  rw [ge_iff_le, i6_le (by omega) (by omega) (by omega) (by omega), i6_neg]
  refine ⟨fun c => ?_, fun c => ?_⟩
  · rw [show (x.natAbs : Int) = x by omega] at h; exact h
  · rw [show (x.natAbs : Int) = -x by omega] at h; exact h
theorem sp_div_lp {Q : Int64 → gj_I → gj_J → Prop} : ∀ (n k : Nat) (x y : Int), y.natAbs < 2 ^ n → x.natAbs < 9223372036854775808 → y.natAbs < 9223372036854775808 → k + 2 * n ≤ 200 → Q (i6 (Int.gcd x y : Nat)) SI SJ → GoL E mt_154 9 [none, none, none, none, some (.long (i6 x)), none, some (.long (i6 y)), none, some (.int (i3 k)), none, none] SI SJ Q := by
  intro n
  induction n with
  | zero =>
    intro k x y hy hx h2 hk h
    have hy : y.natAbs < 1 := hy
    have : y = 0 := by omega
    subst this
    rw [Int.gcd_zero_right] at h
    exact lp_154_9 _ _ _ SI SJ ⟨fun _ => dv_end hx h, fun _ => ⟨fun _ => dv_end hx h, fun c => absurd rfl c⟩⟩
  | succ n ih =>
    intro k x y hy hx h2 hk h
    refine lp_154_9 _ _ _ SI SJ ?_
    rw [i3_le (by omega) (by omega) (by omega) (by omega), i6_eq (by omega) (by omega) (by omega) (by omega)]
    refine ⟨fun c => absurd c (by omega), fun _ => ⟨fun c => ?_, fun c => ⟨?_, ?_⟩⟩⟩
    · subst c
      rw [Int.gcd_zero_right] at h; exact dv_end hx h
    · rw [i6_z, i6_eq (by omega) (by omega) (by omega) (by omega)]; exact c
    · have h0 : 0 < y.natAbs := by omega
      rw [i6_remT hx h2, i3_add, show (k : Int) + 1 = ((k + 1 : Nat) : Int) by omega]
      have hm := Nat.mod_lt x.natAbs h0
      rw [← Int.natAbs_tmod] at hm
      rw [← gcd_stepI] at h
      generalize x.tmod y = r at hm h
      refine lp_154_9 _ _ _ SI SJ ?_
      rw [i3_le (by omega) (by omega) (by omega) (by omega), i6_eq (by omega) (by omega) (by omega) (by omega)]
      refine ⟨fun c => absurd c (by omega), fun _ => ⟨fun c => ?_, fun c => ⟨?_, ?_⟩⟩⟩
      · subst c
        rw [Int.gcd_zero_right] at h; exact dv_end h2 h
      · rw [i6_z, i6_eq (by omega) (by omega) (by omega) (by omega)]; exact c
      · have h1 : 0 < r.natAbs := by omega
        rw [i6_remT h2 (by omega), i3_add, show ((k + 1 : Nat) : Int) + 1 = ((k + 2 : Nat) : Int) by omega]
        have hh := half_mod h1 hm
        rw [← Int.natAbs_tmod] at hh
        rw [← gcd_stepI] at h
        have hp : 2 ^ (n + 1) = 2 ^ n * 2 := Nat.pow_succ 2 n
        generalize y.tmod r = z at hh h
        exact ih (k + 2) r z (by omega) (by omega) (by omega) (by omega) h
theorem i6_abs {a : Int} (h1 : -9223372036854775808 < a) (h2 : a < 9223372036854775808) : (if 0 < i6 a then i6 a else -i6 a) = i6 (a.natAbs : Int) := by
  rw [i6_z, i6_neg]
  by_cases h : 0 < a
  · rw [if_pos (by rw [i6_lt (by omega) (by omega) (by omega) h2]; exact h), show (a.natAbs : Int) = a by omega]
  · rw [if_neg (by rw [i6_lt (by omega) (by omega) (by omega) h2]; exact h), show (a.natAbs : Int) = -a by omega]
theorem i3_abs {a : Int} (h1 : -2147483648 < a) (h2 : a < 2147483648) : (if 0 ≤ i3 a then i3 a else 0 - i3 a) = i3 (a.natAbs : Int) := by
  rw [i3_z, i3_sub]
  by_cases h : 0 ≤ a
  · rw [if_pos (by rw [i3_le (by omega) (by omega) (by omega) h2]; exact h), show (a.natAbs : Int) = a by omega]
  · rw [if_neg (by rw [i3_le (by omega) (by omega) (by omega) h2]; exact h), show (a.natAbs : Int) = 0 - a by omega]
theorem sp_divisor {Q : Int64 → gj_I → gj_J → Prop} {a b : Int} (h1 : -9223372036854775808 < a) (h2 : a < 9223372036854775808) (h3 : -9223372036854775808 < b) (h4 : b < 9223372036854775808) (h : Q (i6 (Int.gcd a b : Nat)) SI SJ) : DoL E 154 [(.long (i6 a)), (.long (i6 b))] SI SJ Q := by
  refine st_154 _ _ SI SJ ?_
  exact sp_div_lp 63 0 a b (by omega) (by omega) (by omega) (by decide) h
end Basic
