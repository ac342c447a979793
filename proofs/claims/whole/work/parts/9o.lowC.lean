/-! 9o: a candidate among the pushes that free, class -/
def CA (p : V3) (SJ : gj_J) : Prop := SJ 61 7 = i6 p.1 ∧ SJ 61 8 = i6 p.2.1 ∧ SJ 61 9 = i6 p.2.2
def CX (p : V3) (SJ : gj_J) : Prop := SJ 61 4 = i6 p.1 ∧ SJ 61 5 = i6 p.2.1 ∧ SJ 61 6 = i6 p.2.2
def LJca (o k : Nat) : Prop := o = 61 ∧ 7 ≤ k ∧ k ≤ 9
def LJcx (o k : Nat) : Prop := o = 61 ∧ 4 ≤ k ∧ k ≤ 9
def sgv (s : Int) (p : V3) : V3 := if s = 1 then p else neg3 p
def lst (p : V3) : Int := if p.2.2 = 0 then (if p.2.1 = 0 then p.1 else p.2.1) else p.2.2
section LowC
variable {E : gj_E} {SI : gj_I} {SJ : gj_J} {F : Nat → Int}
theorem sp_lower {Q : gj_I → gj_J → Prop} {a b : Int32} {p : V3} (hp : Pb p) (hz : p ≠ (0, 0, 0)) (c : Nat) (hc : c < 91) (c1 : SJ 47 c = i6 p.1) (c2 : SJ 48 c = i6 p.2.1) (c3 : SJ 49 c = i6 p.2.2) (s : Int) (hs : s = 1 ∨ s = -1) (ha : a = i3 c) (hb : b = i3 s) (h : ∀ SJ', FJ LJca SJ SJ' → CA (sgv s (low3 p)) SJ' → Q SI SJ') : DoV E 49 [(.ref 61), (.ref 42), (.int a), (.int b)] SI SJ Q := by
  subst ha; subst hb
  have gb := gcd3_b hp
  have hp2 := hp
  obtain ⟨b1, b2, b3⟩ := hp
  have eg : Int.gcd p.1 ((Int.gcd p.2.1 p.2.2 : Nat) : Int) = gcd3 p := (Int.gcd_assoc _ _ _).symm
  have g0 : gcd3 p ≠ 0 := fun z => hz (gcd3_0 z)
  have gi : Int.gcd p.2.1 p.2.2 ≤ 150000 := by
    by_cases q : p.2.1 = 0 ∧ p.2.2 = 0
    · rw [q.1, q.2]; decide
    · exact gcd_le q (by omega) (by omega)
  refine st_49 _ _ SI SJ ?_
  rw [i3_in (by omega) (by omega), i3_n (by omega) (by omega), show ((c : Nat) : Int).toNat = c by omega, c1, c2, c3, i3_64 (by omega) (by omega)]
  refine ⟨by omega, sp_divisor (by omega) (by omega) (by omega) (by omega) (sp_divisor (by omega) (by omega) (by omega) (by omega) ?_)⟩
  rw [eg, c1, c2, c3, i6_mul, i6_mul, i6_mul, i6_eq (by omega) (by omega) (by omega) (by omega), i6_eq0 (by omega) (by omega)]
  have e : low3 p = (p.1.tdiv (gcd3 p), p.2.1.tdiv (gcd3 p), p.2.2.tdiv (gcd3 p)) := if_neg g0
  refine ⟨fun q => ⟨q, ?_⟩, fun q => absurd q (by omega)⟩
  have m1 := mul_b (a := s) (b := p.1) (m := 1) (n := 150000) (by omega) (by omega)
  have m2 := mul_b (a := s) (b := p.2.1) (m := 1) (n := 150000) (by omega) (by omega)
  have m3 := mul_b (a := s) (b := p.2.2) (m := 1) (n := 10000) (by omega) (by omega)
  rw [i6_div (by omega) (by omega) (by omega) (by omega), i6_div (by omega) (by omega) (by omega) (by omega), i6_div (by omega) (by omega) (by omega) (by omega)]
  clear m1 m2 m3
  refine h _ (((FJ.rf.w ⟨rfl, by decide, by decide⟩).w ⟨rfl, by decide, by decide⟩).w ⟨rfl, by decide, by decide⟩) ?_
  unfold sgv
  rcases hs with rfl | rfl
  · rw [if_pos rfl, e]
    refine ⟨?_, ?_, ?_⟩
    · rw [w2_n (by omega), w2_n (by omega), w2_s, Int.one_mul]
    · rw [w2_n (by omega), w2_s, Int.one_mul]
    · rw [w2_s, Int.one_mul]
  · rw [if_neg (by decide), e]
    refine ⟨?_, ?_, ?_⟩
    · rw [w2_n (by omega), w2_n (by omega), w2_s, Int.neg_one_mul, Int.neg_tdiv]; rfl
    · rw [w2_n (by omega), w2_s, Int.neg_one_mul, Int.neg_tdiv]; rfl
    · rw [w2_s, Int.neg_one_mul, Int.neg_tdiv]; rfl
theorem sp_choose {Q : gj_I → gj_J → Prop} {p : V3} (hC : CA p SJ) (h : ∀ SJ', FJ LJcx SJ SJ' → CX p SJ' → CA p SJ' → Q SI SJ') : DoV E 50 [(.ref 61)] SI SJ Q := by
  obtain ⟨h1, h2, h3⟩ := hC
  refine st_50 SI SJ ?_
  refine h _ (((FJ.rf.w ⟨rfl, by decide, by decide⟩).w ⟨rfl, by decide, by decide⟩).w ⟨rfl, by decide, by decide⟩) ⟨?_, ?_, ?_⟩ ⟨?_, ?_, ?_⟩
  · rw [w2_n (by omega), w2_n (by omega), w2_s]; exact h1
  · rw [w2_n (by omega), w2_s]; exact h2
  · rw [w2_s]; exact h3
  · rw [w2_n (by omega), w2_n (by omega), w2_n (by omega)]; exact h1
  · rw [w2_n (by omega), w2_n (by omega), w2_n (by omega)]; exact h2
  · rw [w2_n (by omega), w2_n (by omega), w2_n (by omega)]; exact h3
theorem sp_lastSign {Q : Int32 → gj_I → gj_J → Prop} {a : Int32} {p : V3} (hp : Pb p) (c : Nat) (hc : c < 91) (c1 : SJ 47 c = i6 p.1) (c2 : SJ 48 c = i6 p.2.1) (c3 : SJ 49 c = i6 p.2.2) (ha : a = i3 c) (h : Q (i3 (lst p).sign) SI SJ) : DoI E 47 [(.ref 42), (.int a)] SI SJ Q := by
  subst ha
  obtain ⟨b1, b2, b3⟩ := hp
  refine st_47 _ SI SJ ?_
  unfold lst at h
  rw [i3_in (by omega) (by omega), i3_n (by omega) (by omega), show ((c : Nat) : Int).toNat = c by omega, c1, c2, c3, i6_eq (by omega) (by omega) (by omega) (by omega), i6_eq (by omega) (by omega) (by omega) (by omega)]
  refine ⟨by omega, fun q => ⟨fun _ => ?_, fun y => absurd y q⟩, fun q => ⟨fun y => ?_, fun y => ?_⟩⟩
  · rw [if_neg q] at h; exact sp_lsignum _ (by omega) (by omega) rfl h
  · rw [if_pos q, if_neg y] at h; exact sp_lsignum _ (by omega) (by omega) rfl h
  · rw [if_pos q, if_pos y] at h; exact sp_lsignum _ (by omega) (by omega) rfl h
end LowC
