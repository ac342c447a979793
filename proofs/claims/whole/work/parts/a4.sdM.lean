/-! a4: sides: what the class sees of three -/
theorem pv_id (a b c : V3) : dot a (crs b c) = dot (pn3 a b c) a := by unfold dot pn3 crs sub3; dsimp only; grind
theorem pn_1 (a b c : V3) : (crs a b).1 + (crs b c).1 - (crs a c).1 = (pn3 a b c).1 ∧ (crs a b).2.1 + (crs b c).2.1 - (crs a c).2.1 = (pn3 a b c).2.1 ∧ (crs a b).2.2 + (crs b c).2.2 - (crs a c).2.2 = (pn3 a b c).2.2 := by
  unfold pn3 crs sub3; dsimp only
  exact ⟨by grind, by grind, by grind⟩
section SdM
variable {W : Nat → V3} {n i j k : Nat}
theorem pn_nz {a b c : V3} (h : dot (pn3 a b c) a ≠ 0) : pn3 a b c ≠ (0, 0, 0) := fun z => h (by rw [z]; exact dot_0 a)
theorem low_dot {N : V3} (hz : N ≠ (0, 0, 0)) (w : V3) : dot N w = (gcd3 N : Int) * dot (low3 N) w := by
  obtain ⟨g0, e1, e2, e3⟩ := low_g hz
  have u : dot N w = N.1 * w.1 + N.2.1 * w.2.1 + N.2.2 * w.2.2 := rfl
  rw [u, e1, e2, e3]
  generalize low3 N = l
  unfold dot; grind
/-- what the class has of a plane -/
theorem sd_pl {N w : V3} (h : dot N w ≠ 0) : 0 < (gcd3 N : Int) ∧ gcd3 (up3 (low3 N) w) = 1 ∧ 0 < dot (up3 (low3 N) w) w ∧ (dot N w).sign * N.1 = (gcd3 N : Int) * (up3 (low3 N) w).1 ∧ (dot N w).sign * N.2.1 = (gcd3 N : Int) * (up3 (low3 N) w).2.1 ∧ (dot N w).sign * N.2.2 = (gcd3 N : Int) * (up3 (low3 N) w).2.2 ∧ (dot N w).sign * dot N w = (gcd3 N : Int) * dot (up3 (low3 N) w) w := by
  have hz : N ≠ (0, 0, 0) := fun z => h (by rw [z]; exact dot_0 w)
  obtain ⟨g0, e1, e2, e3⟩ := low_g hz
  have ed := low_dot hz w
  have gl := gcd3_low hz
  refine ⟨g0, ?_⟩
  by_cases q : dot (low3 N) w < 0
  · have e : up3 (low3 N) w = neg3 (low3 N) := if_pos q
    have dn : dot N w < 0 := by rw [ed]; exact Int.mul_neg_of_pos_of_neg g0 q
    rw [e, Int.sign_eq_neg_one_of_neg dn, dot_ng, gcd3_neg]
    refine ⟨gl, by omega, ?_, ?_, ?_, ?_⟩
    · show -1 * N.1 = (gcd3 N : Int) * (-(low3 N).1); rw [Int.mul_neg, Int.mul_comm (gcd3 N : Int), ← e1]; omega
    · show -1 * N.2.1 = (gcd3 N : Int) * (-(low3 N).2.1); rw [Int.mul_neg, Int.mul_comm (gcd3 N : Int), ← e2]; omega
    · show -1 * N.2.2 = (gcd3 N : Int) * (-(low3 N).2.2); rw [Int.mul_neg, Int.mul_comm (gcd3 N : Int), ← e3]; omega
    · rw [Int.mul_neg, ← ed]; omega
  · have e : up3 (low3 N) w = low3 N := if_neg q
    have lz : dot (low3 N) w ≠ 0 := fun z => h (by rw [ed, z, Int.mul_zero])
    have dn : 0 < dot N w := by rw [ed]; exact Int.mul_pos g0 (by omega)
    rw [e, Int.sign_eq_one_of_pos dn]
    refine ⟨gl, by omega, ?_, ?_, ?_, ?_⟩
    · rw [Int.one_mul, Int.mul_comm (gcd3 N : Int), ← e1]
    · rw [Int.one_mul, Int.mul_comm (gcd3 N : Int), ← e2]
    · rw [Int.one_mul, Int.mul_comm (gcd3 N : Int), ← e3]
    · rw [Int.one_mul, ← ed]
theorem sdP_0 (h : dot (pn3 (W i) (W j) (W k)) (W i) = 0) : sdP W n i j k = none := by
  refine ic_t ?_
  by_cases z : pn3 (W i) (W j) (W k) = (0, 0, 0)
  · exact Or.inl z
  · refine Or.inr (Or.inl ?_)
    have ed := low_dot z (W i)
    have g0 := (low_g z).1
    rw [h] at ed
    have l0 := (Int.mul_eq_zero.mp ed.symm).resolve_left (by omega)
    unfold up3
    rw [if_neg (by omega)]; exact l0
theorem sdP_n (h : ∃ q, q < n ∧ dot (up3 (low3 (pn3 (W i) (W j) (W k))) (W i)) (W i) < dot (up3 (low3 (pn3 (W i) (W j) (W k))) (W i)) (W q)) : sdP W n i j k = none := ic_t (Or.inr (Or.inr h))
theorem sdP_s (hi : i < n) (hj : j < n) (hk : k < n) (h : dot (pn3 (W i) (W j) (W k)) (W i) ≠ 0) (hq : ∀ q, q < n → dot (up3 (low3 (pn3 (W i) (W j) (W k))) (W i)) (W q) ≤ dot (up3 (low3 (pn3 (W i) (W j) (W k))) (W i)) (W i)) : sdP W n i j k = some (up3 (low3 (pn3 (W i) (W j) (W k))) (W i)) ∧ fct W n (up3 (low3 (pn3 (W i) (W j) (W k))) (W i)) i j k := by
  obtain ⟨g0, g1, d0, s1, s2, s3, s4⟩ := sd_pl h
  refine ⟨ic_f ?_, ⟨hi, hj, hk⟩, g1, d0, ?_, ?_, hq, ?_⟩
  · rintro (z | z | ⟨q, q1, q2⟩)
    · exact pn_nz h z
    · omega
    · have := hq q q1; omega
  · have e : dot (pn3 (W i) (W j) (W k)) (W j) = dot (pn3 (W i) (W j) (W k)) (W i) := by
      generalize W i = a; generalize W j = b; generalize W k = c
      unfold dot pn3 crs sub3; dsimp only; grind
    revert e s1 s2 s3 s4
    generalize up3 (low3 (pn3 (W i) (W j) (W k))) (W i) = p
    generalize (dot (pn3 (W i) (W j) (W k)) (W i)).sign = s
    generalize (gcd3 (pn3 (W i) (W j) (W k)) : Int) = g at *
    generalize pn3 (W i) (W j) (W k) = N
    intro s1 s2 s3 s4 e
    refine Int.eq_of_mul_eq_mul_left (show g ≠ 0 by omega) ?_
    unfold dot at *
    grind
  · have e : dot (pn3 (W i) (W j) (W k)) (W k) = dot (pn3 (W i) (W j) (W k)) (W i) := by
      generalize W i = a; generalize W j = b; generalize W k = c
      unfold dot pn3 crs sub3; dsimp only; grind
    revert e s1 s2 s3 s4
    generalize up3 (low3 (pn3 (W i) (W j) (W k))) (W i) = p
    generalize (dot (pn3 (W i) (W j) (W k)) (W i)).sign = s
    generalize (gcd3 (pn3 (W i) (W j) (W k)) : Int) = g at *
    generalize pn3 (W i) (W j) (W k) = N
    intro s1 s2 s3 s4 e
    refine Int.eq_of_mul_eq_mul_left (show g ≠ 0 by omega) ?_
    unfold dot at *
    grind
  · rw [← pn_dot]; exact h
/-- the wrenches that make c with p -/
def tcS (W : Nat → V3) (p : V3) (c : Int) : Nat → Nat
  | 0 => 0
  | k + 1 => if dot (W k) p = c then tcS W p c k ||| 2 ^ k else tcS W p c k
theorem tcS_lt (W : Nat → V3) (p : V3) (c : Int) : ∀ n, tcS W p c n < 2 ^ n := by
  intro n
  induction n with
  | zero => exact Nat.lt_succ_self 0
  | succ n ih =>
    have h1 : 2 ^ (n + 1) = 2 ^ n * 2 := Nat.pow_succ 2 n
    show (if dot (W n) p = c then tcS W p c n ||| 2 ^ n else tcS W p c n) < 2 ^ (n + 1)
    split
    · exact Nat.or_lt_two_pow (by omega) (by have : 1 ≤ 2 ^ n := Nat.one_le_two_pow; omega)
    · omega
theorem tcS_bit (W : Nat → V3) (p : V3) (c : Int) : ∀ n k, (tcS W p c n).testBit k = true ↔ k < n ∧ dot (W k) p = c := by
  intro n
  induction n with
  | zero => intro k; simp [tcS]
  | succ n ih =>
    intro k
    show (if dot (W n) p = c then tcS W p c n ||| 2 ^ n else tcS W p c n).testBit k = true ↔ _
    by_cases q : dot (W n) p = c
    · rw [if_pos q, or_bit, Bool.or_eq_true, ih k, decide_eq_true_iff]
      constructor
      · rintro (z | z)
        · exact ⟨by omega, z.2⟩
        · subst z; exact ⟨by omega, q⟩
      · rintro ⟨z1, z2⟩
        by_cases e : n = k
        · exact Or.inr e
        · exact Or.inl ⟨by omega, z2⟩
    · rw [if_neg q, ih k]
      constructor
      · rintro ⟨z1, z2⟩; exact ⟨by omega, z2⟩
      · rintro ⟨z1, z2⟩
        refine ⟨?_, z2⟩
        rcases Nat.lt_or_ge k n with y | y
        · exact y
        · have : k = n := by omega
          subst this; exact absurd z2 q
/-- t is the set of the wrenches that p touches -/
def tch (W : Nat → V3) (n : Nat) (p : V3) (t : Nat) : Prop := t < 2 ^ n ∧ ∀ q, t.testBit q = true ↔ q < n ∧ ∀ r, r < n → dot p (W r) ≤ dot p (W q)
theorem tch_un {p : V3} {t u : Nat} (h : tch W n p t) (k : tch W n p u) : t = u := by
  apply Nat.eq_of_testBit_eq
  intro q
  have a := h.2 q
  have b := k.2 q
  cases x : t.testBit q <;> cases y : u.testBit q
  · rfl
  · rw [x] at a; rw [y] at b
    exact a.mpr (b.mp rfl)
  · rw [x] at a; rw [y] at b
    exact (b.mpr (a.mp rfl)).symm
  · rfl
theorem tch_in {p q : V3} {t i2 j2 k2 : Nat} (h : tch W n p t) (g : tch W n q t) (hf : fct W n p i j k) (hg : fct W n q i2 j2 k2) : p = q := by
  obtain ⟨⟨h1, h2, h3⟩, gp, p0, p1, p2, pm, pd⟩ := hf
  obtain ⟨⟨m1, -, -⟩, gq, q0, -, -, qm, -⟩ := hg
  have bi := (h.2 i).mpr ⟨h1, pm⟩
  have bj := (h.2 j).mpr ⟨h2, fun r hr => by rw [p1]; exact pm r hr⟩
  have bk := (h.2 k).mpr ⟨h3, fun r hr => by rw [p2]; exact pm r hr⟩
  obtain ⟨-, ci⟩ := (g.2 i).mp bi
  obtain ⟨-, cj⟩ := (g.2 j).mp bj
  obtain ⟨-, ck⟩ := (g.2 k).mp bk
  have a1 := ci i2 m1
  have a2 := ci j h2
  have a3 := ci k h3
  have a4 := cj i h1
  have a5 := ck i h1
  exact fct_un gp gq pd p0 p1 p2 (by omega) (by omega) (by omega)
theorem tcS_t {N p : V3} {g o : Int} (g0 : 0 < g) (e1 : N.1 = g * p.1) (e2 : N.2.1 = g * p.2.1) (e3 : N.2.2 = g * p.2.2) (ho : ∃ i, i < n ∧ dot p (W i) = o) (hm : ∀ r, r < n → dot p (W r) ≤ o) : tch W n p (tcS W N (g * o) n) := by
  have ed : ∀ w, dot w N = g * dot p w := fun w => by unfold dot; rw [e1, e2, e3]; grind
  refine ⟨tcS_lt _ _ _ _, fun q => ?_⟩
  rw [tcS_bit, ed]
  obtain ⟨i0, hi0, eo⟩ := ho
  constructor
  · rintro ⟨q1, q2⟩
    have := Int.eq_of_mul_eq_mul_left (show g ≠ 0 by omega) q2
    exact ⟨q1, fun r hr => by rw [this]; exact hm r hr⟩
  · rintro ⟨q1, q2⟩
    have a := q2 i0 hi0
    have b := hm q q1
    exact ⟨q1, by rw [show dot p (W q) = o by omega]⟩
/-- sides at hand -/
def FS (W : Nat → V3) (n : Nat) (s : Sds) : Prop := (∀ k, k < s.1 → ∃ i j l, fct W n (s.2.1 k) i j l) ∧ (∀ a b, a < b → b < s.1 → s.2.1 a ≠ s.2.1 b) ∧ WSd s
theorem FS.few {s : Sds} (h : FS W n s) (hB : Wb W n) : s.1 = 0 ∨ s.1 + 4 ≤ 2 * n := few_sd hB h.1 h.2.1
theorem FS.tk {s : Sds} {p : V3} {o : Int} (h : FS W n s) (hf : fct W n p i j k) (hn : ¬ kno s p) (ok : okS p o) : FS W n (tkS s p o) := by
  obtain ⟨h1, h2, h3, h4⟩ := h
  refine ⟨fun l hl => ?_, fun a b hab hb => ?_, fun l hl => ?_, fun _ => ?_⟩
  · have hl2 : l < s.1 + 1 := hl
    show ∃ i j m, fct W n (if l = s.1 then p else s.2.1 l) i j m
    split
    · exact ⟨i, j, k, hf⟩
    · exact h1 l (by omega)
  · have hb2 : b < s.1 + 1 := hb
    show (if a = s.1 then p else s.2.1 a) ≠ (if b = s.1 then p else s.2.1 b)
    rw [if_neg (by omega)]
    split
    · exact fun z => hn ⟨a, by omega, z⟩
    · exact h2 a b hab (by omega)
  · have hl2 : l < s.1 + 1 := hl
    show Pc (if l = s.1 then p else s.2.1 l)
    split
    · exact ok.1
    · exact h3 l (by omega)
  · show okS (ic (s.1 = 0 ∨ wkr p o s.2.2.1 s.2.2.2) p s.2.2.1) (ic (s.1 = 0 ∨ wkr p o s.2.2.1 s.2.2.2) o s.2.2.2)
    by_cases q : s.1 = 0 ∨ wkr p o s.2.2.1 s.2.2.2
    · rw [ic_t q, ic_t q]; exact ok
    · rw [ic_f q, ic_f q]; exact h4 (by omega)
end SdM
