/-! a5: sides of the class: touched, isNew, isWeaker, note -/
/-- the plane at hand: g times p, offset g times o -/
def PL52 (g : Int) (p : V3) (o : Int) (SJ : gj_J) : Prop := SJ 52 8 = i6 (g * p.1) ∧ SJ 52 9 = i6 (g * p.2.1) ∧ SJ 52 10 = i6 (g * p.2.2) ∧ SJ 52 11 = i6 (g * o)
def RSc52 (W : Nat → V3) (n : Nat) (s : Sds) (SI : gj_I) (SJ : gj_J) : Prop := SI 52 2 = i3 s.1 ∧ (∀ k, k < s.1 → ∃ t : Nat, SI 54 k = i3 t ∧ tch W n (s.2.1 k) t) ∧ (0 < s.1 → SJ 52 3 = i6 s.2.2.1.1 ∧ SJ 52 4 = i6 s.2.2.1.2.1 ∧ SJ 52 5 = i6 s.2.2.1.2.2 ∧ SJ 52 6 = i6 s.2.2.2 ∧ SJ 52 7 = i6 (sz3 s.2.2.1))
def LIsd52 (o k : Nat) : Prop := (o = 52 ∧ k = 2) ∨ o = 54
def LJsd52 (o k : Nat) : Prop := o = 52 ∧ 3 ≤ k ∧ k ≤ 12
section SdC52
variable {E : gj_E} {SI : gj_I} {SJ : gj_J} {W : Nat → V3} {O : Nat → Int} {n : Nat}
theorem sp_touched52 {Q : Int32 → gj_I → gj_J → Prop} {N : V3} {c : Int} (hL : LB42 W O n SI SJ) (hn : n ≤ 14) (hB : Wb W n) (hN : Pc N) (hc : 0 ≤ c ∧ c ≤ 110000000) (p1 : SJ 52 8 = i6 N.1) (p2 : SJ 52 9 = i6 N.2.1) (p3 : SJ 52 10 = i6 N.2.2) (p4 : SJ 52 11 = i6 c) (h0 : (∃ q, q < n ∧ c < dot N (W q)) → Q (i3 0) SI SJ) (h1 : (∀ q, q < n → dot N (W q) ≤ c) → Q (i3 (tcS W N c n : Nat)) SI SJ) : DoI E 55 [(.ref 52), (.ref 42)] SI SJ Q := by
  refine st_55_52_42 SI SJ ?_
  refine up_lp (α := Unit) (P := fun i _ A B => A = SI ∧ B = SJ ∧ ∀ q, q < i → dot N (W q) ≤ c) (G := fun i _ A B => GoI E mt_55 4 [some (.ref 52), some (.ref 42), some (.int (i3 (tcS W N c i : Nat))), some (.int (i3 i)), none, none] A B Q) n ?_ ?_ 0 () SI SJ (by omega) ⟨rfl, rfl, fun q hq => absurd hq (Nat.not_lt_zero q)⟩
  · rintro _ A B ⟨rfl, rfl, hq⟩
    refine lp_55_4_52_42 _ _ A B ⟨fun _ => h1 hq, fun y => ?_⟩
    rw [hL.1, i3_le (by omega) (by omega) (by omega) (by omega)] at y; omega
  · rintro i _ A B hi ⟨rfl, rfl, hq⟩ ih
    have nx := ih () A B
    obtain ⟨w1, w2, w3, -⟩ := hL.2 i hi
    have db := Pc_dot hB hi hN
    have ea : tcS W N c (i + 1) = if dot (W i) N = c then tcS W N c i ||| 2 ^ i else tcS W N c i := rfl
    rw [ea] at nx
    refine lp_55_4_52_42 _ _ A B ⟨fun y => ?_, fun _ => ⟨by rw [i3_in (by omega) (by omega)]; omega, ?_⟩⟩
    · rw [hL.1, i3_le (by omega) (by omega) (by omega) (by omega)] at y; omega
    · rw [i3_n (by omega) (by omega), show ((i : Nat) : Int).toNat = i by omega, w1, w2, w3, p1, p2, p3, p4, i6_mul, i6_mul, i6_mul, i6_add, i6_add]
      have ed : (W i).1 * N.1 + (W i).2.1 * N.2.1 + (W i).2.2 * N.2.2 = dot N (W i) := dot_com (W i) N
      rw [ed, i6_le (by omega) (by omega) (by omega) (by omega), i6_eq (by omega) (by omega) (by omega) (by omega), i3_add, i3_shl (by omega), i3_or]
      rw [dot_com] at nx
      refine ⟨fun y => ⟨fun y2 => ?_, fun y2 => ?_⟩, fun y => h0 ⟨i, hi, by omega⟩⟩
      · rw [if_neg y2] at nx
        refine nx ⟨rfl, rfl, fun q hq2 => ?_⟩
        by_cases e : q = i
        · rw [e]; exact y
        · exact hq q (by omega)
      · rw [if_pos y2] at nx
        refine nx ⟨rfl, rfl, fun q hq2 => ?_⟩
        by_cases e : q = i
        · rw [e]; exact y
        · exact hq q (by omega)
theorem sp_isNew52 {Q : Int32 → gj_I → gj_J → Prop} {a : Int32} {p : V3} {i j k : Nat} (s : Sds) (hs : RSc52 W n s SI SJ) (hF : FS W n s) (hn : n ≤ 14) (hp : fct W n p i j k) (t : Nat) (ht : tch W n p t) (h24 : s.1 ≤ 24 ∧ (¬ kno s p → s.1 < 24)) (ha : a = i3 t) (h : Q (ibc (¬ kno s p)) SI SJ) : DoI E 56 [(.ref 52), (.int a)] SI SJ Q := by
  subst ha
  obtain ⟨s0, s1, -⟩ := hs
  have p14 : 2 ^ n ≤ 2 ^ 14 := Nat.pow_le_pow_right (by decide) hn
  have t1 := ht.1
  refine st_56_52 _ SI SJ ?_
  refine up_lp (α := Unit) (P := fun i _ A B => A = SI ∧ B = SJ ∧ ∀ q, q < i → s.2.1 q ≠ p) (G := fun i _ A B => GoI E mt_56 2 [some (.ref 52), some (.int (i3 (t : Nat))), some (.int (i3 i))] A B Q) s.1 ?_ ?_ 0 () SI SJ (by omega) ⟨rfl, rfl, fun q hq => absurd hq (Nat.not_lt_zero q)⟩
  · rintro _ A B ⟨rfl, rfl, hq⟩
    have nk : ¬ kno s p := fun ⟨q, q1, q2⟩ => hq q q1 q2
    have lt := h24.2 nk
    rw [ibc_t nk] at h
    refine lp_56_2_52 _ _ A B ⟨fun _ => ?_, fun y => ?_⟩
    · rw [s0, i3_le (by omega) (by omega) (by omega) (by omega)]
      exact ⟨fun y => by omega, fun _ => h⟩
    · rw [s0, i3_le (by omega) (by omega) (by omega) (by omega)] at y; omega
  · rintro m _ A B hm ⟨rfl, rfl, hq⟩ ih
    obtain ⟨u, u1, u2⟩ := s1 m hm
    have u3 := u2.1
    refine lp_56_2_52 _ _ A B ⟨fun y => ?_, fun _ => ⟨by rw [i3_in (by omega) (by omega)]; omega, ?_⟩⟩
    · rw [s0, i3_le (by omega) (by omega) (by omega) (by omega)] at y; omega
    · rw [i3_n (by omega) (by omega), show ((m : Nat) : Int).toNat = m by omega, u1, i3_eq (by omega) (by omega) (by omega) (by omega), i3_add]
      refine ⟨fun y => ih () A B ⟨rfl, rfl, fun q hq2 => ?_⟩, fun y => ?_⟩
      · by_cases e : q = m
        · rw [e]
          intro z
          rw [z] at u2
          exact y (by rw [tch_un u2 ht])
        · exact hq q (by omega)
      · have e : u = t := by omega
        subst e
        obtain ⟨i2, j2, k2, hf2⟩ := hF.1 m hm
        have : s.2.1 m = p := tch_in u2 ht hf2 hp
        rw [ibc_f (fun z => z ⟨m, hm, this⟩)] at h; exact h
theorem sp_isWeakC52 {Q : Int32 → gj_I → gj_J → Prop} (s : Sds) (p : V3) (o : Int) (hs : RSc52 W n s SI SJ) (hw : WSd s) (s0 : 0 < s.1) (ok : okS p o) (p1 : SJ 52 8 = i6 p.1) (p2 : SJ 52 9 = i6 p.2.1) (p3 : SJ 52 10 = i6 p.2.2) (p4 : SJ 52 11 = i6 o) (p5 : SJ 52 12 = i6 (sz3 p)) (h : Q (ibc (wkr p o s.2.2.1 s.2.2.2)) SI SJ) : DoI E 58 [(.ref 52)] SI SJ Q := by
  obtain ⟨-, -, s2⟩ := hs
  obtain ⟨t1, t2, t3, t4, t5⟩ := s2 s0
  obtain ⟨b1, -, b3, b4⟩ := ok
  obtain ⟨d1, -, d3, d4⟩ := hw.2 s0
  refine st_58_52 SI SJ ?_
  have z1 := sz3_b b1
  have z2 := sz3_b d1
  obtain ⟨x1, x2, x3⟩ := b1
  obtain ⟨y1, y2, y3⟩ := d1
  rw [p4, t4, p5, t5, p1, p2, p3, t1, t2, t3, i6_mul, i6_mul]
  have m1 := mul_b (a := o) (b := sz3 s.2.2.1) (m := 110000000) (n := 1230000) (by omega) (by omega)
  have m2 := mul_b (a := s.2.2.2) (b := sz3 p) (m := 110000000) (n := 1230000) (by omega) (by omega)
  rw [i6_eq (by omega) (by omega) (by omega) (by omega), i6_eq (a := p.1) (by omega) (by omega) (by omega) (by omega), i6_eq (a := p.2.1) (by omega) (by omega) (by omega) (by omega), ge_iff_le, ge_iff_le, ge_iff_le, ge_iff_le, i6_le (by omega) (by omega) (by omega) (by omega), i6_le (by omega) (by omega) (by omega) (by omega), i6_le (by omega) (by omega) (by omega) (by omega), i6_le (by omega) (by omega) (by omega) (by omega)]
  have yes : wkr p o s.2.2.1 s.2.2.2 → Q (i3 1) SI SJ := fun z => by rw [ibc_t z] at h; exact h
  have no : ¬ wkr p o s.2.2.1 s.2.2.2 → Q (i3 0) SI SJ := fun z => by rw [ibc_f z] at h; exact h
  clear h m1 m2
  unfold wkr vlt at yes no
  generalize o * sz3 s.2.2.1 = X at *
  generalize s.2.2.2 * sz3 p = Y at *
  refine ⟨fun d => ⟨fun e1 => ⟨fun e2 => ⟨fun e3 => no (by omega), fun e3 => yes (by omega)⟩, fun e2 => ⟨fun e3 => no (by omega), fun e3 => yes (by omega)⟩⟩, fun e1 => ⟨fun e3 => no (by omega), fun e3 => yes (by omega)⟩⟩, fun d => ⟨fun e3 => no (by omega), fun e3 => yes (by omega)⟩⟩
theorem sp_noteC52 {Q : gj_I → gj_J → Prop} {a : Int32} {g o : Int} {p : V3} (s : Sds) (hs : RSc52 W n s SI SJ) (hw : WSd s) (h24 : s.1 < 24) (ok : okS p o) (hg : gcd3 p = 1) (g0 : 0 < g) (gN : Pc (g * p.1, g * p.2.1, g * p.2.2)) (go : g * o ≤ 110000000) (hP : PL52 g p o SJ) (t : Nat) (ht : tch W n p t) (ha : a = i3 t) (h : ∀ SI' SJ', FI LIsd52 SI SI' → FJ LJsd52 SJ SJ' → RSc52 W n (tkS s p o) SI' SJ' → Q SI' SJ') : DoV E 57 [(.ref 52), (.int a)] SI SJ Q := by
  subst ha
  have hs' := hs
  obtain ⟨s0, s1, s2⟩ := hs'
  obtain ⟨p1, p2, p3, p4⟩ := hP
  have gb := Pc_gcd gN
  have ok' := ok
  obtain ⟨okP, -, o1, o2⟩ := ok'
  obtain ⟨q1, q2, q3⟩ := okP
  obtain ⟨b1, b2, b3⟩ := gN
  dsimp only at b1 b2 b3
  have eg : Int.gcd (g * p.1) ((Int.gcd (g * p.2.1) (g * p.2.2) : Nat) : Int) = gcd3 (g * p.1, g * p.2.1, g * p.2.2) := (Int.gcd_assoc _ _ _).symm
  have eg2 : (gcd3 (g * p.1, g * p.2.1, g * p.2.2) : Int) = g := by
    rw [gcd3_mul, hg, Nat.mul_one]; omega
  have gi : Int.gcd (g * p.2.1) (g * p.2.2) ≤ 600000 := by
    by_cases q : g * p.2.1 = 0 ∧ g * p.2.2 = 0
    · rw [q.1, q.2]; decide
    · exact gcd_le q (by omega) (by omega)
  have gl : g ≤ 600000 := by omega
  have go1 : 0 ≤ g * o := Int.mul_nonneg (by omega) (by omega)
  have c1 : (g * p.1).tdiv g = p.1 := Int.mul_tdiv_cancel_left _ (by omega)
  have c2 : (g * p.2.1).tdiv g = p.2.1 := Int.mul_tdiv_cancel_left _ (by omega)
  have c3 : (g * p.2.2).tdiv g = p.2.2 := Int.mul_tdiv_cancel_left _ (by omega)
  have c4 : (g * o).tdiv g = o := Int.mul_tdiv_cancel_left _ (by omega)
  have fin : ∀ (B2 : gj_J), FJ LJsd52 SJ B2 → (B2 52 3 = i6 (tkS s p o).2.2.1.1 ∧ B2 52 4 = i6 (tkS s p o).2.2.1.2.1 ∧ B2 52 5 = i6 (tkS s p o).2.2.1.2.2 ∧ B2 52 6 = i6 (tkS s p o).2.2.2 ∧ B2 52 7 = i6 (sz3 (tkS s p o).2.2.1)) → vp_in (SI 52 2) 24 ∧ Q (gj_u2 (gj_u2 SI 54 (gj_n (SI 52 2)) (i3 t)) 52 2 (SI 52 2 + i3 1)) B2 := by
    intro B2 f2 hk
    rw [s0, i3_in (by omega) (by omega), i3_n (by omega) (by omega), show ((s.1 : Nat) : Int).toNat = s.1 by omega, i3_add]
    refine ⟨by omega, h _ _ ((FI.rf.u (Or.inr rfl)).u (Or.inl ⟨rfl, rfl⟩)) f2 ⟨u2_s, fun l hl => ?_, fun _ => hk⟩⟩
    have hl2 : l < s.1 + 1 := hl
    rw [u2_n (by omega)]
    show ∃ t : Nat, _ = i3 t ∧ tch W n (if l = s.1 then p else s.2.1 l) t
    by_cases e : l = s.1
    · subst e
      rw [if_pos rfl, u2_s]; exact ⟨t, rfl, ht⟩
    · rw [if_neg e, u2_n (by omega)]; exact s1 l (by omega)
  refine st_57_52 _ SI SJ ?_
  rw [p2, p3]
  refine sp_divisor (by omega) (by omega) (by omega) (by omega) ?_
  rw [p1]
  refine sp_divisor (by omega) (by omega) (by omega) (by omega) ?_
  rw [eg, eg2, p1, p2, p3, p4, i6_eq (by omega) (by omega) (by omega) (by omega), i6_eq0 (by omega) (by omega), i6_div (by omega) (by omega) (by omega) (by omega), i6_div (by omega) (by omega) (by omega) (by omega), i6_div (by omega) (by omega) (by omega) (by omega), i6_div (by omega) (by omega) (by omega) (by omega), c1, c2, c3, c4, i6_abs (by omega) (by omega), i6_abs (by omega) (by omega), i6_abs (by omega) (by omega), i6_add, i6_add, show (p.1.natAbs : Int) + p.2.1.natAbs + p.2.2.natAbs = sz3 p from rfl]
  refine ⟨fun q => ⟨q, fun y => ?_, fun y => ?_⟩, fun q => absurd q (by omega)⟩
  · rw [s0, i3_eq0 (by omega) (by omega)] at y
    refine fin _ ((((((((((FJ.rf.w ⟨rfl, by decide, by decide⟩).w ⟨rfl, by decide, by decide⟩).w ⟨rfl, by decide, by decide⟩).w ⟨rfl, by decide, by decide⟩).w ⟨rfl, by decide, by decide⟩).w ⟨rfl, by decide, by decide⟩).w ⟨rfl, by decide, by decide⟩).w ⟨rfl, by decide, by decide⟩).w ⟨rfl, by decide, by decide⟩).w ⟨rfl, by decide, by decide⟩) ?_
    have e1 : (tkS s p o).2.2.1 = p := ic_t (Or.inl (by omega))
    have e2 : (tkS s p o).2.2.2 = o := ic_t (Or.inl (by omega))
    rw [e1, e2]
    refine ⟨?_, ?_, ?_, ?_, ?_⟩
    · rw [w2_n (by omega), w2_n (by omega), w2_n (by omega), w2_n (by omega), w2_s]
    · rw [w2_n (by omega), w2_n (by omega), w2_n (by omega), w2_s]
    · rw [w2_n (by omega), w2_n (by omega), w2_s]
    · rw [w2_n (by omega), w2_s]
    · rw [w2_s]
  · rw [s0, i3_eq0 (by omega) (by omega)] at y
    have f1 : FJ LJsd52 SJ (gj_w2 (gj_w2 (gj_w2 (gj_w2 (gj_w2 SJ 52 8 (i6 p.1)) 52 9 (i6 p.2.1)) 52 10 (i6 p.2.2)) 52 11 (i6 o)) 52 12 (i6 (sz3 p))) := ((((FJ.rf.w ⟨rfl, by decide, by decide⟩).w ⟨rfl, by decide, by decide⟩).w ⟨rfl, by decide, by decide⟩).w ⟨rfl, by decide, by decide⟩).w ⟨rfl, by decide, by decide⟩
    have v1 : (gj_w2 (gj_w2 (gj_w2 (gj_w2 (gj_w2 SJ 52 8 (i6 p.1)) 52 9 (i6 p.2.1)) 52 10 (i6 p.2.2)) 52 11 (i6 o)) 52 12 (i6 (sz3 p))) 52 8 = i6 p.1 := by rw [w2_n (by omega), w2_n (by omega), w2_n (by omega), w2_n (by omega), w2_s]
    have v2 : (gj_w2 (gj_w2 (gj_w2 (gj_w2 (gj_w2 SJ 52 8 (i6 p.1)) 52 9 (i6 p.2.1)) 52 10 (i6 p.2.2)) 52 11 (i6 o)) 52 12 (i6 (sz3 p))) 52 9 = i6 p.2.1 := by rw [w2_n (by omega), w2_n (by omega), w2_n (by omega), w2_s]
    have v3 : (gj_w2 (gj_w2 (gj_w2 (gj_w2 (gj_w2 SJ 52 8 (i6 p.1)) 52 9 (i6 p.2.1)) 52 10 (i6 p.2.2)) 52 11 (i6 o)) 52 12 (i6 (sz3 p))) 52 10 = i6 p.2.2 := by rw [w2_n (by omega), w2_n (by omega), w2_s]
    have v4 : (gj_w2 (gj_w2 (gj_w2 (gj_w2 (gj_w2 SJ 52 8 (i6 p.1)) 52 9 (i6 p.2.1)) 52 10 (i6 p.2.2)) 52 11 (i6 o)) 52 12 (i6 (sz3 p))) 52 11 = i6 o := by rw [w2_n (by omega), w2_s]
    have v5 : (gj_w2 (gj_w2 (gj_w2 (gj_w2 (gj_w2 SJ 52 8 (i6 p.1)) 52 9 (i6 p.2.1)) 52 10 (i6 p.2.2)) 52 11 (i6 o)) 52 12 (i6 (sz3 p))) 52 12 = i6 (sz3 p) := w2_s
    have k1 : ∀ k, k < 8 → (gj_w2 (gj_w2 (gj_w2 (gj_w2 (gj_w2 SJ 52 8 (i6 p.1)) 52 9 (i6 p.2.1)) 52 10 (i6 p.2.2)) 52 11 (i6 o)) 52 12 (i6 (sz3 p))) 52 k = SJ 52 k := fun k hk => by rw [w2_n (by omega), w2_n (by omega), w2_n (by omega), w2_n (by omega), w2_n (by omega)]
    generalize gj_w2 (gj_w2 (gj_w2 (gj_w2 (gj_w2 SJ 52 8 (i6 p.1)) 52 9 (i6 p.2.1)) 52 10 (i6 p.2.2)) 52 11 (i6 o)) 52 12 (i6 (sz3 p)) = B1 at *
    have hs1 : RSc52 W n s SI B1 := ⟨s0, s1, fun z => by rw [k1 3 (by omega), k1 4 (by omega), k1 5 (by omega), k1 6 (by omega), k1 7 (by omega)]; exact s2 z⟩
    refine sp_isWeakC52 s p o hs1 hw (by omega) ok v1 v2 v3 v4 v5 ⟨fun c => ?_, fun c => ?_⟩
    · rw [ibc_0] at c
      refine fin B1 f1 ?_
      have nn : ¬ (s.1 = 0 ∨ wkr p o s.2.2.1 s.2.2.2) := fun z => Or.elim z (fun z => y (by omega)) c
      have e1 : (tkS s p o).2.2.1 = s.2.2.1 := ic_f nn
      have e2 : (tkS s p o).2.2.2 = s.2.2.2 := ic_f nn
      rw [e1, e2]
      exact hs1.2.2 (by omega)
    · rw [ibc_0, Classical.not_not] at c
      refine fin _ (((((f1.w ⟨rfl, by decide, by decide⟩).w ⟨rfl, by decide, by decide⟩).w ⟨rfl, by decide, by decide⟩).w ⟨rfl, by decide, by decide⟩).w ⟨rfl, by decide, by decide⟩) ?_
      have e1 : (tkS s p o).2.2.1 = p := ic_t (Or.inr c)
      have e2 : (tkS s p o).2.2.2 = o := ic_t (Or.inr c)
      rw [e1, e2]
      refine ⟨?_, ?_, ?_, ?_, ?_⟩
      · rw [w2_n (by omega), w2_n (by omega), w2_n (by omega), w2_n (by omega), w2_s]; exact v1
      · rw [w2_n (by omega), w2_n (by omega), w2_n (by omega), w2_s]; exact v2
      · rw [w2_n (by omega), w2_n (by omega), w2_s]; exact v3
      · rw [w2_n (by omega), w2_s]; exact v4
      · rw [w2_s]; exact v5
end SdC52
/-- the plane at hand: g times p, offset g times o -/
def PL76 (g : Int) (p : V3) (o : Int) (SJ : gj_J) : Prop := SJ 76 8 = i6 (g * p.1) ∧ SJ 76 9 = i6 (g * p.2.1) ∧ SJ 76 10 = i6 (g * p.2.2) ∧ SJ 76 11 = i6 (g * o)
def RSc76 (W : Nat → V3) (n : Nat) (s : Sds) (SI : gj_I) (SJ : gj_J) : Prop := SI 76 2 = i3 s.1 ∧ (∀ k, k < s.1 → ∃ t : Nat, SI 78 k = i3 t ∧ tch W n (s.2.1 k) t) ∧ (0 < s.1 → SJ 76 3 = i6 s.2.2.1.1 ∧ SJ 76 4 = i6 s.2.2.1.2.1 ∧ SJ 76 5 = i6 s.2.2.1.2.2 ∧ SJ 76 6 = i6 s.2.2.2 ∧ SJ 76 7 = i6 (sz3 s.2.2.1))
def LIsd76 (o k : Nat) : Prop := (o = 76 ∧ k = 2) ∨ o = 78
def LJsd76 (o k : Nat) : Prop := o = 76 ∧ 3 ≤ k ∧ k ≤ 12
section SdC76
variable {E : gj_E} {SI : gj_I} {SJ : gj_J} {W : Nat → V3} {O : Nat → Int} {n : Nat}
theorem sp_touched76 {Q : Int32 → gj_I → gj_J → Prop} {N : V3} {c : Int} (hL : LB66 W O n SI SJ) (hn : n ≤ 14) (hB : Wb W n) (hN : Pc N) (hc : 0 ≤ c ∧ c ≤ 110000000) (p1 : SJ 76 8 = i6 N.1) (p2 : SJ 76 9 = i6 N.2.1) (p3 : SJ 76 10 = i6 N.2.2) (p4 : SJ 76 11 = i6 c) (h0 : (∃ q, q < n ∧ c < dot N (W q)) → Q (i3 0) SI SJ) (h1 : (∀ q, q < n → dot N (W q) ≤ c) → Q (i3 (tcS W N c n : Nat)) SI SJ) : DoI E 55 [(.ref 76), (.ref 66)] SI SJ Q := by
  refine st_55_76_66 SI SJ ?_
  refine up_lp (α := Unit) (P := fun i _ A B => A = SI ∧ B = SJ ∧ ∀ q, q < i → dot N (W q) ≤ c) (G := fun i _ A B => GoI E mt_55 4 [some (.ref 76), some (.ref 66), some (.int (i3 (tcS W N c i : Nat))), some (.int (i3 i)), none, none] A B Q) n ?_ ?_ 0 () SI SJ (by omega) ⟨rfl, rfl, fun q hq => absurd hq (Nat.not_lt_zero q)⟩
  · rintro _ A B ⟨rfl, rfl, hq⟩
    refine lp_55_4_76_66 _ _ A B ⟨fun _ => h1 hq, fun y => ?_⟩
    rw [hL.1, i3_le (by omega) (by omega) (by omega) (by omega)] at y; omega
  · rintro i _ A B hi ⟨rfl, rfl, hq⟩ ih
    have nx := ih () A B
    obtain ⟨w1, w2, w3, -⟩ := hL.2 i hi
    have db := Pc_dot hB hi hN
    have ea : tcS W N c (i + 1) = if dot (W i) N = c then tcS W N c i ||| 2 ^ i else tcS W N c i := rfl
    rw [ea] at nx
    refine lp_55_4_76_66 _ _ A B ⟨fun y => ?_, fun _ => ⟨by rw [i3_in (by omega) (by omega)]; omega, ?_⟩⟩
    · rw [hL.1, i3_le (by omega) (by omega) (by omega) (by omega)] at y; omega
    · rw [i3_n (by omega) (by omega), show ((i : Nat) : Int).toNat = i by omega, w1, w2, w3, p1, p2, p3, p4, i6_mul, i6_mul, i6_mul, i6_add, i6_add]
      have ed : (W i).1 * N.1 + (W i).2.1 * N.2.1 + (W i).2.2 * N.2.2 = dot N (W i) := dot_com (W i) N
      rw [ed, i6_le (by omega) (by omega) (by omega) (by omega), i6_eq (by omega) (by omega) (by omega) (by omega), i3_add, i3_shl (by omega), i3_or]
      rw [dot_com] at nx
      refine ⟨fun y => ⟨fun y2 => ?_, fun y2 => ?_⟩, fun y => h0 ⟨i, hi, by omega⟩⟩
      · rw [if_neg y2] at nx
        refine nx ⟨rfl, rfl, fun q hq2 => ?_⟩
        by_cases e : q = i
        · rw [e]; exact y
        · exact hq q (by omega)
      · rw [if_pos y2] at nx
        refine nx ⟨rfl, rfl, fun q hq2 => ?_⟩
        by_cases e : q = i
        · rw [e]; exact y
        · exact hq q (by omega)
theorem sp_isNew76 {Q : Int32 → gj_I → gj_J → Prop} {a : Int32} {p : V3} {i j k : Nat} (s : Sds) (hs : RSc76 W n s SI SJ) (hF : FS W n s) (hn : n ≤ 14) (hp : fct W n p i j k) (t : Nat) (ht : tch W n p t) (h24 : s.1 ≤ 24 ∧ (¬ kno s p → s.1 < 24)) (ha : a = i3 t) (h : Q (ibc (¬ kno s p)) SI SJ) : DoI E 56 [(.ref 76), (.int a)] SI SJ Q := by
  subst ha
  obtain ⟨s0, s1, -⟩ := hs
  have p14 : 2 ^ n ≤ 2 ^ 14 := Nat.pow_le_pow_right (by decide) hn
  have t1 := ht.1
  refine st_56_76 _ SI SJ ?_
  refine up_lp (α := Unit) (P := fun i _ A B => A = SI ∧ B = SJ ∧ ∀ q, q < i → s.2.1 q ≠ p) (G := fun i _ A B => GoI E mt_56 2 [some (.ref 76), some (.int (i3 (t : Nat))), some (.int (i3 i))] A B Q) s.1 ?_ ?_ 0 () SI SJ (by omega) ⟨rfl, rfl, fun q hq => absurd hq (Nat.not_lt_zero q)⟩
  · rintro _ A B ⟨rfl, rfl, hq⟩
    have nk : ¬ kno s p := fun ⟨q, q1, q2⟩ => hq q q1 q2
    have lt := h24.2 nk
    rw [ibc_t nk] at h
    refine lp_56_2_76 _ _ A B ⟨fun _ => ?_, fun y => ?_⟩
    · rw [s0, i3_le (by omega) (by omega) (by omega) (by omega)]
      exact ⟨fun y => by omega, fun _ => h⟩
    · rw [s0, i3_le (by omega) (by omega) (by omega) (by omega)] at y; omega
  · rintro m _ A B hm ⟨rfl, rfl, hq⟩ ih
    obtain ⟨u, u1, u2⟩ := s1 m hm
    have u3 := u2.1
    refine lp_56_2_76 _ _ A B ⟨fun y => ?_, fun _ => ⟨by rw [i3_in (by omega) (by omega)]; omega, ?_⟩⟩
    · rw [s0, i3_le (by omega) (by omega) (by omega) (by omega)] at y; omega
    · rw [i3_n (by omega) (by omega), show ((m : Nat) : Int).toNat = m by omega, u1, i3_eq (by omega) (by omega) (by omega) (by omega), i3_add]
      refine ⟨fun y => ih () A B ⟨rfl, rfl, fun q hq2 => ?_⟩, fun y => ?_⟩
      · by_cases e : q = m
        · rw [e]
          intro z
          rw [z] at u2
          exact y (by rw [tch_un u2 ht])
        · exact hq q (by omega)
      · have e : u = t := by omega
        subst e
        obtain ⟨i2, j2, k2, hf2⟩ := hF.1 m hm
        have : s.2.1 m = p := tch_in u2 ht hf2 hp
        rw [ibc_f (fun z => z ⟨m, hm, this⟩)] at h; exact h
theorem sp_isWeakC76 {Q : Int32 → gj_I → gj_J → Prop} (s : Sds) (p : V3) (o : Int) (hs : RSc76 W n s SI SJ) (hw : WSd s) (s0 : 0 < s.1) (ok : okS p o) (p1 : SJ 76 8 = i6 p.1) (p2 : SJ 76 9 = i6 p.2.1) (p3 : SJ 76 10 = i6 p.2.2) (p4 : SJ 76 11 = i6 o) (p5 : SJ 76 12 = i6 (sz3 p)) (h : Q (ibc (wkr p o s.2.2.1 s.2.2.2)) SI SJ) : DoI E 58 [(.ref 76)] SI SJ Q := by
  obtain ⟨-, -, s2⟩ := hs
  obtain ⟨t1, t2, t3, t4, t5⟩ := s2 s0
  obtain ⟨b1, -, b3, b4⟩ := ok
  obtain ⟨d1, -, d3, d4⟩ := hw.2 s0
  refine st_58_76 SI SJ ?_
  have z1 := sz3_b b1
  have z2 := sz3_b d1
  obtain ⟨x1, x2, x3⟩ := b1
  obtain ⟨y1, y2, y3⟩ := d1
  rw [p4, t4, p5, t5, p1, p2, p3, t1, t2, t3, i6_mul, i6_mul]
  have m1 := mul_b (a := o) (b := sz3 s.2.2.1) (m := 110000000) (n := 1230000) (by omega) (by omega)
  have m2 := mul_b (a := s.2.2.2) (b := sz3 p) (m := 110000000) (n := 1230000) (by omega) (by omega)
  rw [i6_eq (by omega) (by omega) (by omega) (by omega), i6_eq (a := p.1) (by omega) (by omega) (by omega) (by omega), i6_eq (a := p.2.1) (by omega) (by omega) (by omega) (by omega), ge_iff_le, ge_iff_le, ge_iff_le, ge_iff_le, i6_le (by omega) (by omega) (by omega) (by omega), i6_le (by omega) (by omega) (by omega) (by omega), i6_le (by omega) (by omega) (by omega) (by omega), i6_le (by omega) (by omega) (by omega) (by omega)]
  have yes : wkr p o s.2.2.1 s.2.2.2 → Q (i3 1) SI SJ := fun z => by rw [ibc_t z] at h; exact h
  have no : ¬ wkr p o s.2.2.1 s.2.2.2 → Q (i3 0) SI SJ := fun z => by rw [ibc_f z] at h; exact h
  clear h m1 m2
  unfold wkr vlt at yes no
  generalize o * sz3 s.2.2.1 = X at *
  generalize s.2.2.2 * sz3 p = Y at *
  refine ⟨fun d => ⟨fun e1 => ⟨fun e2 => ⟨fun e3 => no (by omega), fun e3 => yes (by omega)⟩, fun e2 => ⟨fun e3 => no (by omega), fun e3 => yes (by omega)⟩⟩, fun e1 => ⟨fun e3 => no (by omega), fun e3 => yes (by omega)⟩⟩, fun d => ⟨fun e3 => no (by omega), fun e3 => yes (by omega)⟩⟩
theorem sp_noteC76 {Q : gj_I → gj_J → Prop} {a : Int32} {g o : Int} {p : V3} (s : Sds) (hs : RSc76 W n s SI SJ) (hw : WSd s) (h24 : s.1 < 24) (ok : okS p o) (hg : gcd3 p = 1) (g0 : 0 < g) (gN : Pc (g * p.1, g * p.2.1, g * p.2.2)) (go : g * o ≤ 110000000) (hP : PL76 g p o SJ) (t : Nat) (ht : tch W n p t) (ha : a = i3 t) (h : ∀ SI' SJ', FI LIsd76 SI SI' → FJ LJsd76 SJ SJ' → RSc76 W n (tkS s p o) SI' SJ' → Q SI' SJ') : DoV E 57 [(.ref 76), (.int a)] SI SJ Q := by
  subst ha
  have hs' := hs
  obtain ⟨s0, s1, s2⟩ := hs'
  obtain ⟨p1, p2, p3, p4⟩ := hP
  have gb := Pc_gcd gN
  have ok' := ok
  obtain ⟨okP, -, o1, o2⟩ := ok'
  obtain ⟨q1, q2, q3⟩ := okP
  obtain ⟨b1, b2, b3⟩ := gN
  dsimp only at b1 b2 b3
  have eg : Int.gcd (g * p.1) ((Int.gcd (g * p.2.1) (g * p.2.2) : Nat) : Int) = gcd3 (g * p.1, g * p.2.1, g * p.2.2) := (Int.gcd_assoc _ _ _).symm
  have eg2 : (gcd3 (g * p.1, g * p.2.1, g * p.2.2) : Int) = g := by
    rw [gcd3_mul, hg, Nat.mul_one]; omega
  have gi : Int.gcd (g * p.2.1) (g * p.2.2) ≤ 600000 := by
    by_cases q : g * p.2.1 = 0 ∧ g * p.2.2 = 0
    · rw [q.1, q.2]; decide
    · exact gcd_le q (by omega) (by omega)
  have gl : g ≤ 600000 := by omega
  have go1 : 0 ≤ g * o := Int.mul_nonneg (by omega) (by omega)
  have c1 : (g * p.1).tdiv g = p.1 := Int.mul_tdiv_cancel_left _ (by omega)
  have c2 : (g * p.2.1).tdiv g = p.2.1 := Int.mul_tdiv_cancel_left _ (by omega)
  have c3 : (g * p.2.2).tdiv g = p.2.2 := Int.mul_tdiv_cancel_left _ (by omega)
  have c4 : (g * o).tdiv g = o := Int.mul_tdiv_cancel_left _ (by omega)
  have fin : ∀ (B2 : gj_J), FJ LJsd76 SJ B2 → (B2 76 3 = i6 (tkS s p o).2.2.1.1 ∧ B2 76 4 = i6 (tkS s p o).2.2.1.2.1 ∧ B2 76 5 = i6 (tkS s p o).2.2.1.2.2 ∧ B2 76 6 = i6 (tkS s p o).2.2.2 ∧ B2 76 7 = i6 (sz3 (tkS s p o).2.2.1)) → vp_in (SI 76 2) 24 ∧ Q (gj_u2 (gj_u2 SI 78 (gj_n (SI 76 2)) (i3 t)) 76 2 (SI 76 2 + i3 1)) B2 := by
    intro B2 f2 hk
    rw [s0, i3_in (by omega) (by omega), i3_n (by omega) (by omega), show ((s.1 : Nat) : Int).toNat = s.1 by omega, i3_add]
    refine ⟨by omega, h _ _ ((FI.rf.u (Or.inr rfl)).u (Or.inl ⟨rfl, rfl⟩)) f2 ⟨u2_s, fun l hl => ?_, fun _ => hk⟩⟩
    have hl2 : l < s.1 + 1 := hl
    rw [u2_n (by omega)]
    show ∃ t : Nat, _ = i3 t ∧ tch W n (if l = s.1 then p else s.2.1 l) t
    by_cases e : l = s.1
    · subst e
      rw [if_pos rfl, u2_s]; exact ⟨t, rfl, ht⟩
    · rw [if_neg e, u2_n (by omega)]; exact s1 l (by omega)
  refine st_57_76 _ SI SJ ?_
  rw [p2, p3]
  refine sp_divisor (by omega) (by omega) (by omega) (by omega) ?_
  rw [p1]
  refine sp_divisor (by omega) (by omega) (by omega) (by omega) ?_
  rw [eg, eg2, p1, p2, p3, p4, i6_eq (by omega) (by omega) (by omega) (by omega), i6_eq0 (by omega) (by omega), i6_div (by omega) (by omega) (by omega) (by omega), i6_div (by omega) (by omega) (by omega) (by omega), i6_div (by omega) (by omega) (by omega) (by omega), i6_div (by omega) (by omega) (by omega) (by omega), c1, c2, c3, c4, i6_abs (by omega) (by omega), i6_abs (by omega) (by omega), i6_abs (by omega) (by omega), i6_add, i6_add, show (p.1.natAbs : Int) + p.2.1.natAbs + p.2.2.natAbs = sz3 p from rfl]
  refine ⟨fun q => ⟨q, fun y => ?_, fun y => ?_⟩, fun q => absurd q (by omega)⟩
  · rw [s0, i3_eq0 (by omega) (by omega)] at y
    refine fin _ ((((((((((FJ.rf.w ⟨rfl, by decide, by decide⟩).w ⟨rfl, by decide, by decide⟩).w ⟨rfl, by decide, by decide⟩).w ⟨rfl, by decide, by decide⟩).w ⟨rfl, by decide, by decide⟩).w ⟨rfl, by decide, by decide⟩).w ⟨rfl, by decide, by decide⟩).w ⟨rfl, by decide, by decide⟩).w ⟨rfl, by decide, by decide⟩).w ⟨rfl, by decide, by decide⟩) ?_
    have e1 : (tkS s p o).2.2.1 = p := ic_t (Or.inl (by omega))
    have e2 : (tkS s p o).2.2.2 = o := ic_t (Or.inl (by omega))
    rw [e1, e2]
    refine ⟨?_, ?_, ?_, ?_, ?_⟩
    · rw [w2_n (by omega), w2_n (by omega), w2_n (by omega), w2_n (by omega), w2_s]
    · rw [w2_n (by omega), w2_n (by omega), w2_n (by omega), w2_s]
    · rw [w2_n (by omega), w2_n (by omega), w2_s]
    · rw [w2_n (by omega), w2_s]
    · rw [w2_s]
  · rw [s0, i3_eq0 (by omega) (by omega)] at y
    have f1 : FJ LJsd76 SJ (gj_w2 (gj_w2 (gj_w2 (gj_w2 (gj_w2 SJ 76 8 (i6 p.1)) 76 9 (i6 p.2.1)) 76 10 (i6 p.2.2)) 76 11 (i6 o)) 76 12 (i6 (sz3 p))) := ((((FJ.rf.w ⟨rfl, by decide, by decide⟩).w ⟨rfl, by decide, by decide⟩).w ⟨rfl, by decide, by decide⟩).w ⟨rfl, by decide, by decide⟩).w ⟨rfl, by decide, by decide⟩
    have v1 : (gj_w2 (gj_w2 (gj_w2 (gj_w2 (gj_w2 SJ 76 8 (i6 p.1)) 76 9 (i6 p.2.1)) 76 10 (i6 p.2.2)) 76 11 (i6 o)) 76 12 (i6 (sz3 p))) 76 8 = i6 p.1 := by rw [w2_n (by omega), w2_n (by omega), w2_n (by omega), w2_n (by omega), w2_s]
    have v2 : (gj_w2 (gj_w2 (gj_w2 (gj_w2 (gj_w2 SJ 76 8 (i6 p.1)) 76 9 (i6 p.2.1)) 76 10 (i6 p.2.2)) 76 11 (i6 o)) 76 12 (i6 (sz3 p))) 76 9 = i6 p.2.1 := by rw [w2_n (by omega), w2_n (by omega), w2_n (by omega), w2_s]
    have v3 : (gj_w2 (gj_w2 (gj_w2 (gj_w2 (gj_w2 SJ 76 8 (i6 p.1)) 76 9 (i6 p.2.1)) 76 10 (i6 p.2.2)) 76 11 (i6 o)) 76 12 (i6 (sz3 p))) 76 10 = i6 p.2.2 := by rw [w2_n (by omega), w2_n (by omega), w2_s]
    have v4 : (gj_w2 (gj_w2 (gj_w2 (gj_w2 (gj_w2 SJ 76 8 (i6 p.1)) 76 9 (i6 p.2.1)) 76 10 (i6 p.2.2)) 76 11 (i6 o)) 76 12 (i6 (sz3 p))) 76 11 = i6 o := by rw [w2_n (by omega), w2_s]
    have v5 : (gj_w2 (gj_w2 (gj_w2 (gj_w2 (gj_w2 SJ 76 8 (i6 p.1)) 76 9 (i6 p.2.1)) 76 10 (i6 p.2.2)) 76 11 (i6 o)) 76 12 (i6 (sz3 p))) 76 12 = i6 (sz3 p) := w2_s
    have k1 : ∀ k, k < 8 → (gj_w2 (gj_w2 (gj_w2 (gj_w2 (gj_w2 SJ 76 8 (i6 p.1)) 76 9 (i6 p.2.1)) 76 10 (i6 p.2.2)) 76 11 (i6 o)) 76 12 (i6 (sz3 p))) 76 k = SJ 76 k := fun k hk => by rw [w2_n (by omega), w2_n (by omega), w2_n (by omega), w2_n (by omega), w2_n (by omega)]
    generalize gj_w2 (gj_w2 (gj_w2 (gj_w2 (gj_w2 SJ 76 8 (i6 p.1)) 76 9 (i6 p.2.1)) 76 10 (i6 p.2.2)) 76 11 (i6 o)) 76 12 (i6 (sz3 p)) = B1 at *
    have hs1 : RSc76 W n s SI B1 := ⟨s0, s1, fun z => by rw [k1 3 (by omega), k1 4 (by omega), k1 5 (by omega), k1 6 (by omega), k1 7 (by omega)]; exact s2 z⟩
    refine sp_isWeakC76 s p o hs1 hw (by omega) ok v1 v2 v3 v4 v5 ⟨fun c => ?_, fun c => ?_⟩
    · rw [ibc_0] at c
      refine fin B1 f1 ?_
      have nn : ¬ (s.1 = 0 ∨ wkr p o s.2.2.1 s.2.2.2) := fun z => Or.elim z (fun z => y (by omega)) c
      have e1 : (tkS s p o).2.2.1 = s.2.2.1 := ic_f nn
      have e2 : (tkS s p o).2.2.2 = s.2.2.2 := ic_f nn
      rw [e1, e2]
      exact hs1.2.2 (by omega)
    · rw [ibc_0, Classical.not_not] at c
      refine fin _ (((((f1.w ⟨rfl, by decide, by decide⟩).w ⟨rfl, by decide, by decide⟩).w ⟨rfl, by decide, by decide⟩).w ⟨rfl, by decide, by decide⟩).w ⟨rfl, by decide, by decide⟩) ?_
      have e1 : (tkS s p o).2.2.1 = p := ic_t (Or.inr c)
      have e2 : (tkS s p o).2.2.2 = o := ic_t (Or.inr c)
      rw [e1, e2]
      refine ⟨?_, ?_, ?_, ?_, ?_⟩
      · rw [w2_n (by omega), w2_n (by omega), w2_n (by omega), w2_n (by omega), w2_s]; exact v1
      · rw [w2_n (by omega), w2_n (by omega), w2_n (by omega), w2_s]; exact v2
      · rw [w2_n (by omega), w2_n (by omega), w2_s]; exact v3
      · rw [w2_n (by omega), w2_s]; exact v4
      · rw [w2_s]; exact v5
end SdC76
