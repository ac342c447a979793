/-! 77: sides, weak: the reference -/
/-- how many, the rows, the weak one's row, its offset -/
abbrev Sds : Type := Nat × (Nat → V3) × V3 × Int
def kno (s : Sds) (p : V3) : Prop := ∃ k, k < s.1 ∧ s.2.1 k = p
def wkr (p : V3) (o : Int) (q : V3) (u : Int) : Prop := o * sz3 q < u * sz3 p ∨ (o * sz3 q = u * sz3 p ∧ vlt p q)
noncomputable def tkS (s : Sds) (p : V3) (o : Int) : Sds := (s.1 + 1, (fun k => if k = s.1 then p else s.2.1 k), ic (s.1 = 0 ∨ wkr p o s.2.2.1 s.2.2.2) p s.2.2.1, ic (s.1 = 0 ∨ wkr p o s.2.2.1 s.2.2.2) o s.2.2.2)
noncomputable def sdS (W : Nat → V3) (n i j k : Nat) (s : Sds) : Sds := match sdP W n i j k with
  | none => s
  | some p => ic (kno s p) s (tkS s p (dot p (W i)))
noncomputable def sdJ (W : Nat → V3) (n i j : Nat) (s : Sds) : Sds := forN (sdS W n i j) (j + 1) (n - (j + 1)) s
noncomputable def sdI (W : Nat → V3) (n i : Nat) (s : Sds) : Sds := forN (sdJ W n i) (i + 1) (n - (i + 1)) s
noncomputable def sdA (W : Nat → V3) (n : Nat) : Sds := forN (sdI W n) 0 n (0, (fun _ => (0, 0, 0)), (0, 0, 0), 0)
def RSd (s : Sds) (SI : gj_I) (SJ : gj_J) : Prop := SI 81 48 = i3 s.1 ∧ (∀ k, k < s.1 → SJ 100 k = i6 (s.2.1 k).1 ∧ SJ 101 k = i6 (s.2.1 k).2.1 ∧ SJ 102 k = i6 (s.2.1 k).2.2) ∧ (0 < s.1 → SJ 81 40 = i6 s.2.2.1.1 ∧ SJ 81 41 = i6 s.2.2.1.2.1 ∧ SJ 81 42 = i6 s.2.2.1.2.2 ∧ SJ 81 39 = i6 s.2.2.2 ∧ SJ 81 43 = i6 (lox s.2.2.2 (sz3 s.2.2.1)) ∧ SJ 81 44 = i6 (loy s.2.2.2 (sz3 s.2.2.1)))
def okS (p : V3) (o : Int) : Prop := Pc p ∧ p ≠ (0, 0, 0) ∧ 0 < o ∧ o ≤ 110000000
def WSd (s : Sds) : Prop := (∀ k, k < s.1 → Pc (s.2.1 k)) ∧ (0 < s.1 → okS s.2.2.1 s.2.2.2)
theorem sz3_b {p : V3} (h : Pc p) : 0 ≤ sz3 p ∧ sz3 p ≤ 1230000 := by
  obtain ⟨h1, h2, h3⟩ := h
  unfold sz3; omega
theorem sz3_p {p : V3} (h : p ≠ (0, 0, 0)) : 0 < sz3 p := by
  obtain ⟨a, b, c⟩ := p
  unfold sz3; dsimp only
  rcases Nat.eq_zero_or_pos (a.natAbs + b.natAbs + c.natAbs) with q | q
  · exfalso
    apply h
    rw [show a = 0 by omega, show b = 0 by omega, show c = 0 by omega]
  · omega
theorem low3_z {p : V3} (h : p ≠ (0, 0, 0)) : low3 p ≠ (0, 0, 0) := by
  intro z
  have g0 : gcd3 p ≠ 0 := fun e => h (gcd3_0 e)
  unfold low3 at z
  rw [if_neg g0] at z
  have d2 : ((gcd3 p : Nat) : Int) ∣ p.2.2 := Int.gcd_dvd_right ..
  have d0 : ((gcd3 p : Nat) : Int) ∣ ((Int.gcd p.1 p.2.1 : Nat) : Int) := Int.gcd_dvd_left ..
  have d1 : ((gcd3 p : Nat) : Int) ∣ p.1 := Int.dvd_trans d0 (Int.gcd_dvd_left ..)
  have d3 : ((gcd3 p : Nat) : Int) ∣ p.2.1 := Int.dvd_trans d0 (Int.gcd_dvd_right ..)
  have e1 := Int.tdiv_mul_cancel d1
  have e2 := Int.tdiv_mul_cancel d3
  have e3 := Int.tdiv_mul_cancel d2
  have z1 : p.1.tdiv (gcd3 p) = 0 := congrArg (fun t => t.1) z
  have z2 : p.2.1.tdiv (gcd3 p) = 0 := congrArg (fun t => t.2.1) z
  have z3 : p.2.2.tdiv (gcd3 p) = 0 := congrArg (fun t => t.2.2) z
  rw [z1, Int.zero_mul] at e1
  rw [z2, Int.zero_mul] at e2
  rw [z3, Int.zero_mul] at e3
  apply h
  obtain ⟨a, b, c⟩ := p
  dsimp only at e1 e2 e3
  rw [← e1, ← e2, ← e3]
theorem up3_z {p w : V3} (h : p ≠ (0, 0, 0)) : up3 p w ≠ (0, 0, 0) := by
  intro z
  unfold up3 at z
  split at z
  · apply h
    obtain ⟨a, b, c⟩ := p
    have z1 : -a = 0 := congrArg (fun t => t.1) z
    have z2 : -b = 0 := congrArg (fun t => t.2.1) z
    have z3 : -c = 0 := congrArg (fun t => t.2.2) z
    rw [show a = 0 by omega, show b = 0 by omega, show c = 0 by omega]
  · exact h z
theorem up3_d {p w : V3} : 0 ≤ dot (up3 p w) w := by
  unfold up3
  split
  · rw [dot_neg]; omega
  · omega
theorem sdP_ok {W : Nat → V3} {n i j k : Nat} {p : V3} (hB : Wb W n) (hi : i < n) (hj : j < n) (hk : k < n) (h : sdP W n i j k = some p) : okS p (dot p (W i)) := by
  unfold sdP at h
  by_cases q : pn3 (W i) (W j) (W k) = (0, 0, 0) ∨ dot (up3 (low3 (pn3 (W i) (W j) (W k))) (W i)) (W i) = 0 ∨ ∃ q, q < n ∧ dot (up3 (low3 (pn3 (W i) (W j) (W k))) (W i)) (W i) < dot (up3 (low3 (pn3 (W i) (W j) (W k))) (W i)) (W q)
  · rw [ic_t q] at h; cases h
  · rw [ic_f q] at h
    have pu := Pc_up (w := W i) (Pc_low (pn3_b hB hi hj hk))
    have pd := Pc_dot hB hi pu
    have p0 := up3_d (p := low3 (pn3 (W i) (W j) (W k))) (w := W i)
    have hz : up3 (low3 (pn3 (W i) (W j) (W k))) (W i) ≠ (0, 0, 0) := up3_z (low3_z (fun z => q (Or.inl z)))
    have hd : dot (up3 (low3 (pn3 (W i) (W j) (W k))) (W i)) (W i) ≠ 0 := fun z => q (Or.inr (Or.inl z))
    cases h
    exact ⟨pu, hz, by omega, by omega⟩
def LIS (o k : Nat) : Prop := o = 81 ∧ k = 48
def LJS (o k : Nat) : Prop := o = 100 ∨ o = 101 ∨ o = 102 ∨ (o = 81 ∧ (k = 39 ∨ k = 40 ∨ k = 41 ∨ k = 42 ∨ k = 43 ∨ k = 44))
section Sides
variable {E : gj_E} {SI : gj_I} {SJ : gj_J} {F : Nat → Int} {W : Nat → V3} {O : Nat → Int} {n : Nat}
theorem sp_isKnown {Q : Int32 → gj_I → gj_J → Prop} (s : Sds) (p : V3) (hs : RSd s SI SJ) (hw : WSd s) (hP : PS p SJ) (hb : Pc p) (h4 : s.1 ≤ 400) (h : Q (ibc (kno s p)) SI SJ) : DoI E 250 [(.ref 81)] SI SJ Q := by
  obtain ⟨s0, s1, -⟩ := hs
  obtain ⟨p1, p2, p3⟩ := hP
  obtain ⟨b1, b2, b3⟩ := hb
  refine st_250 SI SJ ?_
  refine up_lp (α := Unit) (P := fun i _ A B => A = SI ∧ B = SJ ∧ ∀ k, k < i → s.2.1 k ≠ p) (G := fun i _ A B => GoI E mt_250 2 [some (.ref 81), some (.int (i3 i))] A B Q) s.1 ?_ ?_ 0 () SI SJ (by omega) ⟨rfl, rfl, fun k hk => by omega⟩
  · rintro _ A B ⟨rfl, rfl, hz⟩
    refine lp_250_2 _ A B ⟨fun _ => ?_, fun c => ?_⟩
    · rw [ibc_f (fun z : kno s p => by obtain ⟨k, k1, k2⟩ := z; exact hz k k1 k2)] at h; exact h
    · rw [s0, i3_le (by omega) (by omega) (by omega) (by omega)] at c; omega
  · rintro i _ A B hi ⟨rfl, rfl, hz⟩ ih
    obtain ⟨x1, x2, x3⟩ := s1 i hi
    obtain ⟨w1, w2, w3⟩ := hw.1 i hi
    have nx : s.2.1 i ≠ p → GoI E mt_250 2 [some (.ref 81), some (.int (i3 ((i : Int) + 1)))] A B Q := by
      intro ne
      refine ih () A B ⟨rfl, rfl, fun k hk => ?_⟩
      by_cases q : k = i
      · rw [q]; exact ne
      · exact hz k (by omega)
    refine lp_250_2 _ A B ⟨fun c => ?_, fun c => ?_⟩
    · rw [s0, i3_le (by omega) (by omega) (by omega) (by omega)] at c; omega
    · rw [i3_in (by omega) (by omega), i3_n (by omega) (by omega), show ((i : Nat) : Int).toNat = i by omega, x1, x2, x3, p1, p2, p3, i6_eq (by omega) (by omega) (by omega) (by omega), i6_eq (by omega) (by omega) (by omega) (by omega), i6_eq (by omega) (by omega) (by omega) (by omega), i3_add]
      refine ⟨by omega, fun d => nx (fun z => d (by rw [z])), fun d => ⟨fun g => nx (fun z => g (by rw [z])), fun g => ⟨fun t => nx (fun z => t (by rw [z])), fun t => ?_⟩⟩⟩
      have e : s.2.1 i = p := by
        generalize s.2.1 i = x at *
        obtain ⟨u1, u2, u3⟩ := x
        obtain ⟨v1, v2, v3⟩ := p
        dsimp only at d g t
        rw [d, g, t]
      rw [ibc_t (p := kno s p) ⟨i, hi, e⟩] at h; exact h
theorem lo_sign {o w u m : Int} (hm : 0 < m) : (o * loy u m - lox u m * w = 0 ↔ o * m = u * w) ∧ (o * loy u m - lox u m * w < 0 ↔ o * m < u * w) := by
  obtain ⟨h1, h2, h3⟩ := lo_gcd (u := u) hm
  generalize lox u m = x at *
  generalize loy u m = y at *
  generalize ((Int.gcd u m : Nat) : Int) = g at *
  have e : o * m - u * w = (o * y - x * w) * g := by rw [← h2, ← h3]; grind
  generalize o * y - x * w = d at *
  constructor
  · constructor
    · intro hd; rw [hd, Int.zero_mul] at e; omega
    · intro hd
      have : d * g = 0 := by omega
      rcases Int.mul_eq_zero.mp this with z | z
      · exact z
      · omega
  · constructor
    · intro hd
      have := Int.mul_neg_of_neg_of_pos hd h1
      omega
    · intro hd
      rcases Int.lt_or_le d 0 with z | z
      · exact z
      · have := Int.mul_nonneg z (Int.le_of_lt h1); omega
theorem sp_isWeaker {Q : Int32 → gj_I → gj_J → Prop} (s : Sds) (p : V3) (o : Int) (hs : RSd s SI SJ) (hw : WSd s) (hP : PS p SJ) (ho : SJ 81 38 = i6 o) (hk : okS p o) (h4 : s.1 ≤ 400) (h : Q (ibc (s.1 = 0 ∨ wkr p o s.2.2.1 s.2.2.2)) SI SJ) : DoI E 251 [(.ref 81)] SI SJ Q := by
  obtain ⟨s0, -, s2⟩ := hs
  obtain ⟨p1, p2, p3⟩ := hP
  obtain ⟨hb, hpz, o1, o2⟩ := hk
  have szb := sz3_b hb
  have hb' := hb
  obtain ⟨b1, b2, b3⟩ := hb'
  refine st_251 SI SJ ?_
  rw [s0, i3_eq0 (by omega) (by omega)]
  refine ⟨fun c => ?_, fun c => ?_⟩
  · obtain ⟨t1, t2, t3, t4, t5, t6⟩ := s2 (by omega)
    obtain ⟨kb, kz, k1, k2⟩ := hw.2 (by omega)
    have skb := sz3_b kb
    have skp := sz3_p kz
    obtain ⟨kb1, kb2, kb3⟩ := kb
    rw [p1]
    refine sp_size (by omega) (by omega) ?_
    rw [p2]
    refine sp_size (by omega) (by omega) ?_
    rw [p3]
    refine sp_size (by omega) (by omega) ?_
    have lp := lo_pos (u := s.2.2.2) skp
    have m1 := mul_b (a := o) (b := loy s.2.2.2 (sz3 s.2.2.1)) (m := 110000000) (n := 1230000) (by omega) (by omega)
    have m2 := mul_b (a := lox s.2.2.2 (sz3 s.2.2.1)) (b := sz3 p) (m := 110000000) (n := 1230000) (by omega) (by omega)
    have ls := lo_sign (o := o) (w := sz3 p) (u := s.2.2.2) skp
    rw [ho, t5, t6, t1, t2, t3, p1, p2, p3]
    simp only [i6_add, i6_mul, i6_sub]
    have esz : (p.1.natAbs : Int) + (p.2.1.natAbs : Int) + (p.2.2.natAbs : Int) = sz3 p := rfl
    rw [esz, ge_iff_le, ge_iff_le, ge_iff_le, ge_iff_le, i6_eq (by omega) (by omega) (by omega) (by omega), i6_eq (by omega) (by omega) (by omega) (by omega), i6_eq (by omega) (by omega) (by omega) (by omega), i6_le (by omega) (by omega) (by omega) (by omega), i6_le (by omega) (by omega) (by omega) (by omega), i6_le (by omega) (by omega) (by omega) (by omega), i6_le (by omega) (by omega) (by omega) (by omega), ls.1]
    have yes : wkr p o s.2.2.1 s.2.2.2 → Q (i3 1) SI SJ := fun z => by rw [ibc_t (Or.inr z)] at h; exact h
    have no : ¬ wkr p o s.2.2.1 s.2.2.2 → Q (i3 0) SI SJ := fun z => by rw [ibc_f (p := s.1 = 0 ∨ wkr p o s.2.2.1 s.2.2.2) (fun y => Or.elim y (fun y2 => c (by omega)) z)] at h; exact h
    have ls2 := ls.2
    clear h ls m1 m2 lp
    unfold wkr at yes no
    unfold vlt at yes no
    generalize o * loy s.2.2.2 (sz3 s.2.2.1) - lox s.2.2.2 (sz3 s.2.2.1) * sz3 p = D at *
    generalize o * sz3 s.2.2.1 = X at *
    generalize s.2.2.2 * sz3 p = Y at *
    refine ⟨fun d => ⟨fun e1 => ⟨fun e2 => ⟨fun e3 => no (by omega), fun e3 => yes (by omega)⟩, fun e2 => ⟨fun e3 => no (by omega), fun e3 => yes (by omega)⟩⟩, fun e1 => ⟨fun e3 => no (by omega), fun e3 => yes (by omega)⟩⟩, fun d => ⟨fun e3 => no (by omega), fun e3 => yes (by omega)⟩⟩
  · rw [ibc_t (Or.inl (by omega))] at h; exact h
theorem sp_takesSide {Q : gj_I → gj_J → Prop} (s : Sds) (p : V3) (o : Int) (hs : RSd s SI SJ) (hw : WSd s) (hP : PS p SJ) (ho : SJ 81 38 = i6 o) (hk : okS p o) (h4 : s.1 < 400) (h : ∀ SI' SJ', FI LIS SI SI' → FJ LJS SJ SJ' → RSd (tkS s p o) SI' SJ' → WSd (tkS s p o) → Q SI' SJ') : DoV E 252 [(.ref 81)] SI SJ Q := by
  have hs' := hs
  obtain ⟨s0, s1, s2⟩ := hs'
  have hP' := hP
  obtain ⟨p1, p2, p3⟩ := hP'
  have hk' := hk
  obtain ⟨hb, hpz, o1, o2⟩ := hk'
  have szb := sz3_b hb
  have szp := sz3_p hpz
  have hb' := hb
  obtain ⟨b1, b2, b3⟩ := hb'
  have wn : WSd (tkS s p o) := by
    refine ⟨fun k hk2 => ?_, fun _ => ?_⟩
    · have hk3 : k < s.1 + 1 := hk2
      show Pc (if k = s.1 then p else s.2.1 k)
      split
      · exact hb
      · exact hw.1 k (by omega)
    · show okS (ic (s.1 = 0 ∨ wkr p o s.2.2.1 s.2.2.2) p s.2.2.1) (ic (s.1 = 0 ∨ wkr p o s.2.2.1 s.2.2.2) o s.2.2.2)
      by_cases q : s.1 = 0 ∨ wkr p o s.2.2.1 s.2.2.2
      · rw [ic_t q, ic_t q]; exact hk
      · rw [ic_f q, ic_f q]; exact hw.2 (by omega)
  refine st_252 SI SJ (sp_isWeaker s p o hs hw hP ho hk (by omega) ⟨fun c => ?_, fun c => ?_⟩)
  · rw [ibc_0] at c
    rw [s0, i3_in (by omega) (by omega), i3_n (by omega) (by omega), show ((s.1 : Nat) : Int).toNat = s.1 by omega, i3_add, p1, p2, p3]
    refine ⟨by omega, h _ _ (FI.rf.u ⟨rfl, rfl⟩) (((FJ.rf.w (Or.inl rfl)).w (Or.inr (Or.inl rfl))).w (Or.inr (Or.inr (Or.inl rfl)))) ⟨u2_s, fun k hk2 => ?_, fun _ => ?_⟩ wn⟩
    · have hk3 : k < s.1 + 1 := hk2
      show _ = i6 (if k = s.1 then p else s.2.1 k).1 ∧ _ = i6 (if k = s.1 then p else s.2.1 k).2.1 ∧ _ = i6 (if k = s.1 then p else s.2.1 k).2.2
      by_cases e : k = s.1
      · subst e
        rw [if_pos rfl, w2_n (by omega), w2_n (by omega), w2_s, w2_n (by omega), w2_s, w2_s]; exact ⟨rfl, rfl, rfl⟩
      · rw [if_neg e, w2_n (by omega), w2_n (by omega), w2_n (by omega), w2_n (by omega), w2_n (by omega), w2_n (by omega), w2_n (by omega), w2_n (by omega), w2_n (by omega)]; exact s1 k (by omega)
    · have e1 : (tkS s p o).2.2.1 = s.2.2.1 := ic_f c
      have e2 : (tkS s p o).2.2.2 = s.2.2.2 := ic_f c
      rw [e1, e2]
      have s2' := s2 (by omega)
      rw [w2_n (by omega), w2_n (by omega), w2_n (by omega), w2_n (by omega), w2_n (by omega), w2_n (by omega), w2_n (by omega), w2_n (by omega), w2_n (by omega), w2_n (by omega), w2_n (by omega), w2_n (by omega), w2_n (by omega), w2_n (by omega), w2_n (by omega), w2_n (by omega), w2_n (by omega), w2_n (by omega)]
      exact s2'
  · rw [ibc_0, Classical.not_not] at c
    rw [p1]
    refine sp_size (by omega) (by omega) ?_
    rw [p2]
    refine sp_size (by omega) (by omega) ?_
    rw [p3]
    refine sp_size (by omega) (by omega) ?_
    rw [ho]
    simp only [i6_add]
    have esz : (p.1.natAbs : Int) + (p.2.1.natAbs : Int) + (p.2.2.natAbs : Int) = sz3 p := rfl
    rw [esz]
    refine sp_common (by omega) (by omega) (by omega) (by omega) ?_
    have lg := lo_gcd (u := o) szp
    have gl : ((Int.gcd o (sz3 p) : Nat) : Int) ≤ 1230000 := by
      have := Int.gcd_le_right (a := o) (b := sz3 p) szp; omega
    rw [ho, p1, p2, p3, s0, i6_eq0 (by omega) (by omega), i6_div (by omega) (by omega) (by omega) (by omega), i6_div (by omega) (by omega) (by omega) (by omega), i3_in (by omega) (by omega), i3_n (by omega) (by omega), show ((s.1 : Nat) : Int).toNat = s.1 by omega, i3_add]
    refine ⟨by omega, by omega, h _ _ (FI.rf.u ⟨rfl, rfl⟩) (((((((((FJ.rf.w (by unfold LJS; omega)).w (by unfold LJS; omega)).w (by unfold LJS; omega)).w (by unfold LJS; omega)).w (by unfold LJS; omega)).w (by unfold LJS; omega)).w (Or.inl rfl)).w (Or.inr (Or.inl rfl))).w (Or.inr (Or.inr (Or.inl rfl)))) ⟨u2_s, fun k hk2 => ?_, fun _ => ?_⟩ wn⟩
    · have hk3 : k < s.1 + 1 := hk2
      show _ = i6 (if k = s.1 then p else s.2.1 k).1 ∧ _ = i6 (if k = s.1 then p else s.2.1 k).2.1 ∧ _ = i6 (if k = s.1 then p else s.2.1 k).2.2
      by_cases e : k = s.1
      · subst e
        rw [if_pos rfl, w2_n (by omega), w2_n (by omega), w2_s, w2_n (by omega), w2_s, w2_s]; exact ⟨rfl, rfl, rfl⟩
      · rw [if_neg e]
        obtain ⟨y1, y2, y3⟩ := s1 k (by omega)
        refine ⟨?_, ?_, ?_⟩
        · rw [w2_n (by omega), w2_n (by omega), w2_n (by omega), w2_n (by omega), w2_n (by omega), w2_n (by omega), w2_n (by omega), w2_n (by omega), w2_n (by omega)]; exact y1
        · rw [w2_n (by omega), w2_n (by omega), w2_n (by omega), w2_n (by omega), w2_n (by omega), w2_n (by omega), w2_n (by omega), w2_n (by omega), w2_n (by omega)]; exact y2
        · rw [w2_n (by omega), w2_n (by omega), w2_n (by omega), w2_n (by omega), w2_n (by omega), w2_n (by omega), w2_n (by omega), w2_n (by omega), w2_n (by omega)]; exact y3
    · have e1 : (tkS s p o).2.2.1 = p := ic_t c
      have e2 : (tkS s p o).2.2.2 = o := ic_t c
      rw [e1, e2]
      refine ⟨?_, ?_, ?_, ?_, ?_, ?_⟩
      · rw [w2_n (by omega), w2_n (by omega), w2_n (by omega), w2_n (by omega), w2_n (by omega), w2_n (by omega), w2_s]
      · rw [w2_n (by omega), w2_n (by omega), w2_n (by omega), w2_n (by omega), w2_n (by omega), w2_s]
      · rw [w2_n (by omega), w2_n (by omega), w2_n (by omega), w2_n (by omega), w2_s]
      · rw [w2_n (by omega), w2_n (by omega), w2_n (by omega), w2_s]
      · rw [w2_n (by omega), w2_n (by omega), w2_n (by omega), w2_n (by omega), w2_n (by omega), w2_n (by omega), w2_n (by omega), w2_n (by omega), w2_s]; rfl
      · rw [w2_n (by omega), w2_n (by omega), w2_n (by omega), w2_n (by omega), w2_n (by omega), w2_n (by omega), w2_n (by omega), w2_s]; rfl
end Sides
