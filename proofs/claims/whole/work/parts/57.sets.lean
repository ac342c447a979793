/-! 57: sets as bits -/
def pcn : Nat → Nat → Nat
  | 0, _ => 0
  | f + 1, s => s % 2 + pcn f (s / 2)
/-- how many are in a set -/
def pct (s : Nat) : Nat := pcn 31 s
theorem pcn_step : ∀ (f s : Nat), s < 2 ^ f → s ≠ 0 → pcn f (s &&& (s - 1)) + 1 = pcn f s := by
  intro f
  induction f with
  | zero => intro s h h0; omega
  | succ f ih =>
    intro s h h0
    have hd : (s &&& (s - 1)) / 2 = s / 2 &&& (s - 1) / 2 := Nat.and_div_two
    have hm : (s &&& (s - 1)) % 2 = 0 := by
      have := Nat.and_mod_two_eq_one (a := s) (b := s - 1)
      omega
    unfold pcn
    rw [hd, hm]
    rw [Nat.pow_succ] at h
    rcases Nat.mod_two_eq_zero_or_one s with q | q
    · rw [show (s - 1) / 2 = s / 2 - 1 by omega, q]
      have := ih (s / 2) (by omega) (by omega)
      omega
    · rw [show (s - 1) / 2 = s / 2 by omega, Nat.and_self, q]
      omega
theorem pcn_0 : ∀ f, pcn f 0 = 0 := by
  intro f
  induction f with
  | zero => rfl
  | succ f ih => unfold pcn; rw [Nat.zero_mod, Nat.zero_div, ih]
theorem pcn_le : ∀ f s, pcn f s ≤ f := by
  intro f
  induction f with
  | zero => intro s; exact Nat.le_refl 0
  | succ f ih => intro s; have := ih (s / 2); unfold pcn; omega
theorem i3_and {a b : Nat} : i3 a &&& i3 b = i3 ((a &&& b : Nat) : Int) := by
  rw [← i3_ofNat, ← i3_ofNat, ← i3_ofNat]
  apply Int32.toBitVec_inj.mp
  rw [Int32.toBitVec_and]
  show BitVec.ofNat 32 _ &&& BitVec.ofNat 32 _ = BitVec.ofNat 32 _
  rw [BitVec.ofNat_and]
theorem i3_or {a b : Nat} : i3 a ||| i3 b = i3 ((a ||| b : Nat) : Int) := by
  rw [← i3_ofNat, ← i3_ofNat, ← i3_ofNat]
  apply Int32.toBitVec_inj.mp
  rw [Int32.toBitVec_or]
  show BitVec.ofNat 32 _ ||| BitVec.ofNat 32 _ = BitVec.ofNat 32 _
  rw [BitVec.ofNat_or]
theorem i3_xor {a b : Nat} : i3 a ^^^ i3 b = i3 ((a ^^^ b : Nat) : Int) := by
  rw [← i3_ofNat, ← i3_ofNat, ← i3_ofNat]
  apply Int32.toBitVec_inj.mp
  rw [Int32.toBitVec_xor]
  show BitVec.ofNat 32 _ ^^^ BitVec.ofNat 32 _ = BitVec.ofNat 32 _
  rw [BitVec.ofNat_xor]
/-- a without b -/
def wo (a b : Nat) : Nat := a &&& (4294967295 ^^^ b)
theorem i3_wo {a b : Nat} : i3 a &&& (i3 b ^^^ i3 (-1)) = i3 ((wo a b : Nat) : Int) := by
  have e : i3 (-1) = i3 ((4294967295 : Nat) : Int) := by decide
  rw [e, i3_xor, i3_and, Nat.xor_comm]
  rfl
theorem wo_bit {a b j : Nat} (hj : j < 32) : (wo a b).testBit j = (a.testBit j && !b.testBit j) := by
  unfold wo
  have e : (4294967295 : Nat) = 2 ^ 32 - 1 := by decide
  rw [Nat.testBit_and, Nat.testBit_xor, e, Nat.testBit_two_pow_sub_one, decide_eq_true hj]
  simp
theorem wo_le {a b : Nat} : wo a b ≤ a := Nat.and_le_left
theorem bits_ex (n : Nat) (f : Nat → Bool) : ∃ t, t < 2 ^ n ∧ ∀ j, j < n → t.testBit j = f j := by
  induction n with
  | zero => exact ⟨0, by decide, fun j hj => by omega⟩
  | succ n ih =>
    obtain ⟨t, h1, h2⟩ := ih
    by_cases q : f n = true
    · refine ⟨2 ^ n + t, by rw [Nat.pow_succ]; omega, fun j hj => ?_⟩
      by_cases e : j = n
      · subst e
        rw [Nat.testBit_two_pow_add_eq, Nat.testBit_lt_two_pow h1, q]; rfl
      · rw [Nat.testBit_two_pow_add_gt (by omega)]; exact h2 j (by omega)
    · refine ⟨t, by rw [Nat.pow_succ]; omega, fun j hj => ?_⟩
      by_cases e : j = n
      · subst e
        rw [Nat.testBit_lt_two_pow h1]
        cases h : f j with
        | false => rfl
        | true => exact absurd h q
      · exact h2 j (by omega)
section Sets
variable {E : gj_E} {SI : gj_I} {SJ : gj_J} {F : Nat → Int}
theorem sp_sizeOf {Q : Int32 → gj_I → gj_J → Prop} {a : Int32} (s : Nat) (hs : s < 2147483648) (ha : a = i3 s) (h : Q (i3 (pct s)) SI SJ) : DoI E 160 [(.int a)] SI SJ Q := by
  subst ha
  refine st_160 _ SI SJ ?_
  have key : ∀ (m c t : Nat), pct t = m → c + m = pct s → t < 2147483648 → GoI E mt_160 4 [none, some (.int (i3 c)), some (.int (i3 t))] SI SJ Q := by
    intro m
    induction m with
    | zero =>
      intro c t hm hc ht
      refine lp_160_4 _ _ SI SJ ⟨fun _ => ?_, fun z => ?_⟩
      · rw [show c = pct s by omega]; exact h
      · rw [i3_eq0 (by omega) (by omega)] at z
        have := pcn_step 31 t (by omega) (by omega)
        unfold pct at hm; omega
    | succ m ih =>
      intro c t hm hc ht
      refine lp_160_4 _ _ SI SJ ⟨fun z => ?_, fun z => ?_⟩
      · rw [i3_eq0 (by omega) (by omega)] at z
        have e0 : t = 0 := by omega
        subst e0
        unfold pct at hm; rw [pcn_0] at hm; omega
      · rw [i3_eq0 (by omega) (by omega)] at z
        have st := pcn_step 31 t (by omega) (by omega)
        rw [i3_sub, show (t : Int) - 1 = ((t - 1 : Nat) : Int) by omega, i3_and, i3_add, show (c : Int) + 1 = ((c + 1 : Nat) : Int) by omega]
        have lt1 : t &&& (t - 1) ≤ t := Nat.and_le_left
        refine ih (c + 1) _ ?_ (by omega) (by omega)
        unfold pct at hm ⊢; omega
  exact key (pct s) 0 s rfl (by omega) hs
theorem sp_fingersAll {Q : Int32 → gj_I → gj_J → Prop} (hR : RF F SI) (h17 : 0 ≤ F 17 ∧ F 17 ≤ 6) (h : Q (i3 ((fullS (nf F) : Nat) : Int)) SI SJ) : DoI E 259 [(.ref 81)] SI SJ Q := by
  refine st_259 SI SJ ?_
  have en : F 17 = nf F := by unfold nf; omega
  have n6 : nf F ≤ 6 := by omega
  have h2 : 1 ≤ 2 ^ nf F := Nat.one_le_two_pow
  rw [hR 17 (by decide), en, i3_shl (by omega), i3_sub]
  unfold fullS at h
  rw [show ((2 ^ nf F : Nat) : Int) - 1 = ((2 ^ nf F - 1 : Nat) : Int) by omega]
  exact h
end Sets
