/-! 9a: the class's hold: one step -/
def RH (b : Option Cd) (SI : gj_I) (SJ : gj_J) : Prop := match b with
  | none => SI 55 8 = i3 0
  | some c => SI 55 8 = i3 1 ∧ SI 55 5 = i3 c.1 ∧ ∃ L S : Int, SJ 55 6 = i6 L ∧ SJ 55 7 = i6 S ∧ (0 < L ∧ L ≤ 30000000) ∧ (0 ≤ S ∧ S ≤ 120000000000) ∧ S * c.2.2.2 = sumC c * L ∧ ∀ k, k < c.1 → SI 58 k = i3 ((ck c.2.1 k : Nat) : Int) ∧ ∃ p : Int, SJ 59 k = i6 p ∧ (0 < p ∧ p ≤ 40000000000) ∧ p * c.2.2.2 = ck c.2.2.1 k * L
theorem pr_cmp {t l S L sd dl se el : Int} (hl : 0 < l) (hL : 0 < L) (hd : 0 < dl) (he : 0 < el) (h1 : t * dl = sd * l) (h2 : S * el = se * L) : t * L < S * l ↔ sd * el < se * dl := by
  have e1 : (t * L) * (dl * el) = (l * L) * (sd * el) := by
    have : (t * L) * (dl * el) = (t * dl) * (L * el) := by grind
    rw [this, h1]; grind
  have e2 : (S * l) * (dl * el) = (l * L) * (se * dl) := by
    have : (S * l) * (dl * el) = (S * el) * (l * dl) := by grind
    rw [this, h2]; grind
  have p1 := Int.mul_pos hd he
  have p2 := Int.mul_pos hl hL
  rw [← Int.mul_lt_mul_right p1, e1, e2, Int.mul_lt_mul_left p2]
def LIH (o k : Nat) : Prop := o = 58 ∨ (o = 55 ∧ (k = 5 ∨ k = 8))
def LJH (o k : Nat) : Prop := o = 59 ∨ (o = 55 ∧ (k = 6 ∨ k = 7))
theorem sgn_b (l : Int) : l.sign = 1 ∨ l.sign = 0 ∨ l.sign = -1 := by
  rcases Int.lt_trichotomy l 0 with q | q | q
  · exact Or.inr (Or.inr (Int.sign_eq_neg_one_of_neg q))
  · subst q; exact Or.inr (Or.inl rfl)
  · exact Or.inl (Int.sign_eq_one_of_pos q)
def HS (E : gj_E) (K : gj_I → gj_J → Prop) (ai aj ak : Int32) : Int32 → gj_I → gj_J → Prop := fun r1 SI2 SJ2 => (r1 = 0 ∨ r1 = 1) ∧ (r1 = 0 → K SI2 SJ2) ∧ (¬ r1 = 0 → DoV E 22 [(.ref 55), (.int ai), (.int aj), (.int ak)] SI2 SJ2 (fun SI4 SJ4 => K SI4 SJ4))
def hc21 (Q : Int32 → gj_I → gj_J → Prop) (sg : Int64) (a1 : Int32) (a2 a3 a4 a5 : Int64) (SI : gj_I) (SJ : gj_J) : Prop := ((sg * a2) ≤ (i6 0) → Q (i3 0) SI SJ) ∧ (¬ (sg * a2) ≤ (i6 0) → (a1 ≤ (i3 1) → (a1 ≤ (i3 2) → ((SI 55 8) = 0 → Q (i3 1) (gj_u2 (gj_u2 SI 55 8 (i3 1)) 55 5 a1) (gj_w2 (gj_w2 (gj_w2 (gj_w2 (gj_w2 SJ 59 0 (sg * a2)) 59 1 (sg * a3)) 59 2 (sg * a4)) 55 6 (sg * a5)) 55 7 (sg * ((a2 + a3) + a4)))) ∧ (¬ (SI 55 8) = 0 → (((sg * ((a2 + a3) + a4)) * (SJ 55 6)) < ((SJ 55 7) * (sg * a5)) → Q (i3 1) (gj_u2 (gj_u2 SI 55 8 (i3 1)) 55 5 a1) (gj_w2 (gj_w2 (gj_w2 (gj_w2 (gj_w2 SJ 59 0 (sg * a2)) 59 1 (sg * a3)) 59 2 (sg * a4)) 55 6 (sg * a5)) 55 7 (sg * ((a2 + a3) + a4)))) ∧ (¬ ((sg * ((a2 + a3) + a4)) * (SJ 55 6)) < ((SJ 55 7) * (sg * a5)) → Q (i3 0) SI SJ))) ∧ (¬ a1 ≤ (i3 2) → ((sg * a4) > (i6 0) → ((SI 55 8) = 0 → Q (i3 1) (gj_u2 (gj_u2 SI 55 8 (i3 1)) 55 5 a1) (gj_w2 (gj_w2 (gj_w2 (gj_w2 (gj_w2 SJ 59 0 (sg * a2)) 59 1 (sg * a3)) 59 2 (sg * a4)) 55 6 (sg * a5)) 55 7 (sg * ((a2 + a3) + a4)))) ∧ (¬ (SI 55 8) = 0 → (((sg * ((a2 + a3) + a4)) * (SJ 55 6)) < ((SJ 55 7) * (sg * a5)) → Q (i3 1) (gj_u2 (gj_u2 SI 55 8 (i3 1)) 55 5 a1) (gj_w2 (gj_w2 (gj_w2 (gj_w2 (gj_w2 SJ 59 0 (sg * a2)) 59 1 (sg * a3)) 59 2 (sg * a4)) 55 6 (sg * a5)) 55 7 (sg * ((a2 + a3) + a4)))) ∧ (¬ ((sg * ((a2 + a3) + a4)) * (SJ 55 6)) < ((SJ 55 7) * (sg * a5)) → Q (i3 0) SI SJ))) ∧ (¬ (sg * a4) > (i6 0) → Q (i3 0) SI SJ))) ∧ (¬ a1 ≤ (i3 1) → ((sg * a3) ≤ (i6 0) → Q (i3 0) SI SJ) ∧ (¬ (sg * a3) ≤ (i6 0) → (a1 ≤ (i3 2) → ((SI 55 8) = 0 → Q (i3 1) (gj_u2 (gj_u2 SI 55 8 (i3 1)) 55 5 a1) (gj_w2 (gj_w2 (gj_w2 (gj_w2 (gj_w2 SJ 59 0 (sg * a2)) 59 1 (sg * a3)) 59 2 (sg * a4)) 55 6 (sg * a5)) 55 7 (sg * ((a2 + a3) + a4)))) ∧ (¬ (SI 55 8) = 0 → (((sg * ((a2 + a3) + a4)) * (SJ 55 6)) < ((SJ 55 7) * (sg * a5)) → Q (i3 1) (gj_u2 (gj_u2 SI 55 8 (i3 1)) 55 5 a1) (gj_w2 (gj_w2 (gj_w2 (gj_w2 (gj_w2 SJ 59 0 (sg * a2)) 59 1 (sg * a3)) 59 2 (sg * a4)) 55 6 (sg * a5)) 55 7 (sg * ((a2 + a3) + a4)))) ∧ (¬ ((sg * ((a2 + a3) + a4)) * (SJ 55 6)) < ((SJ 55 7) * (sg * a5)) → Q (i3 0) SI SJ))) ∧ (¬ a1 ≤ (i3 2) → ((sg * a4) > (i6 0) → ((SI 55 8) = 0 → Q (i3 1) (gj_u2 (gj_u2 SI 55 8 (i3 1)) 55 5 a1) (gj_w2 (gj_w2 (gj_w2 (gj_w2 (gj_w2 SJ 59 0 (sg * a2)) 59 1 (sg * a3)) 59 2 (sg * a4)) 55 6 (sg * a5)) 55 7 (sg * ((a2 + a3) + a4)))) ∧ (¬ (SI 55 8) = 0 → (((sg * ((a2 + a3) + a4)) * (SJ 55 6)) < ((SJ 55 7) * (sg * a5)) → Q (i3 1) (gj_u2 (gj_u2 SI 55 8 (i3 1)) 55 5 a1) (gj_w2 (gj_w2 (gj_w2 (gj_w2 (gj_w2 SJ 59 0 (sg * a2)) 59 1 (sg * a3)) 59 2 (sg * a4)) 55 6 (sg * a5)) 55 7 (sg * ((a2 + a3) + a4)))) ∧ (¬ ((sg * ((a2 + a3) + a4)) * (SJ 55 6)) < ((SJ 55 7) * (sg * a5)) → Q (i3 0) SI SJ))) ∧ (¬ (sg * a4) > (i6 0) → Q (i3 0) SI SJ)))))
section Hold
variable {E : gj_E} {SI : gj_I} {SJ : gj_J}
theorem sp_hcore {K : gj_I → gj_J → Prop} {am : Int32} {ax ay az al : Int64} {ai aj ak : Int32} (b : Option Cd) (d : Cd) (p : Prop) (x y z l : Int) (i j k : Nat) (hb : RH b SI SJ) (hwb : WB b) (xb : x.natAbs ≤ 40000000000) (yb : y.natAbs ≤ 40000000000) (zb : z.natAbs ≤ 40000000000) (lb : l.natAbs ≤ 30000000) (hm : 1 ≤ d.1 ∧ d.1 ≤ 3) (hyz : (d.1 = 1 → y = 0 ∧ z = 0) ∧ (d.1 = 2 → z = 0)) (hp : p ↔ (0 < l.sign * x ∧ (1 < d.1 → 0 < l.sign * y) ∧ (2 < d.1 → 0 < l.sign * z))) (hpd : p → WC d ∧ (l.sign * x) * d.2.2.2 = ck d.2.2.1 0 * (l.sign * l) ∧ (1 < d.1 → (l.sign * y) * d.2.2.2 = ck d.2.2.1 1 * (l.sign * l)) ∧ (2 < d.1 → (l.sign * z) * d.2.2.2 = ck d.2.2.1 2 * (l.sign * l))) (hr : d.2.1 = (i, j, k)) (e0 : am = i3 d.1) (e1 : ax = i6 x) (e2 : ay = i6 y) (e3 : az = i6 z) (e4 : al = i6 l) (e5 : ai = i3 i) (e6 : aj = i3 j) (e7 : ak = i3 k) (h : ∀ SI' SJ', FI LIH SI SI' → FJ LJH SJ SJ' → RH (ic p (stepB b d) b) SI' SJ' → WB (ic p (stepB b d) b) → K SI' SJ') : hc21 (HS E K ai aj ak) (i6 l.sign) am ax ay az al SI SJ := by
  subst e0; subst e1; subst e2; subst e3; subst e4; subst e5; subst e6; subst e7
  unfold hc21
  have sb := sgn_b l
  simp only [i6_mul, i6_add]
  have mx := mul_b (a := l.sign) (b := x) (m := 1) (n := 40000000000) (by omega) xb
  have my := mul_b (a := l.sign) (b := y) (m := 1) (n := 40000000000) (by omega) yb
  have mz := mul_b (a := l.sign) (b := z) (m := 1) (n := 40000000000) (by omega) zb
  have ml := mul_b (a := l.sign) (b := l) (m := 1) (n := 30000000) (by omega) lb
  have et : l.sign * (x + y + z) = l.sign * x + l.sign * y + l.sign * z := by grind
  rw [et]
  have no : ¬ p → K SI SJ := fun q => by
    rw [ic_f q] at h; exact h SI SJ FI.rf FJ.rf hb hwb
  have fail : (¬ p) → (HS E K (i3 i) (i3 j) (i3 k) (i3 0) SI SJ) := fun q => ⟨Or.inl rfl, fun _ => no q, fun c => absurd rfl c⟩
  have lpos : 0 < l.sign * x → 0 < l.sign * l := by
    intro q
    rcases Int.lt_trichotomy l 0 with q1 | q1 | q1
    · rw [Int.sign_eq_neg_one_of_neg q1]; omega
    · rw [q1] at q; simp at q
    · rw [Int.sign_eq_one_of_pos q1]; omega
  rw [i6_le (by omega) (by omega) (by omega) (by omega), i6_le (a := l.sign * y) (by omega) (by omega) (by omega) (by omega), gt_iff_lt, i6_lt (by omega) (by omega) (by omega) (by omega), i3_le (by omega) (by omega) (by omega) (by omega), i3_le (by omega) (by omega) (by omega) (by omega)]
  have hY0 : y = 0 → l.sign * y = 0 := fun q => by rw [q, Int.mul_zero]
  have hZ0 : z = 0 → l.sign * z = 0 := fun q => by rw [q, Int.mul_zero]
  generalize l.sign * x = X at *
  generalize l.sign * y = Y at *
  generalize l.sign * z = Z at *
  generalize l.sign * l = L' at *
  have tail : p → ((SI 55 8) = 0 → (HS E K (i3 i) (i3 j) (i3 k) (i3 1) (gj_u2 (gj_u2 SI 55 8 (i3 1)) 55 5 (i3 d.1)) (gj_w2 (gj_w2 (gj_w2 (gj_w2 (gj_w2 SJ 59 0 (i6 X)) 59 1 (i6 Y)) 59 2 (i6 Z)) 55 6 (i6 L')) 55 7 (i6 (X + Y + Z))))) ∧ (¬ (SI 55 8) = 0 → (((i6 (X + Y + Z)) * (SJ 55 6)) < ((SJ 55 7) * (i6 L')) → (HS E K (i3 i) (i3 j) (i3 k) (i3 1) (gj_u2 (gj_u2 SI 55 8 (i3 1)) 55 5 (i3 d.1)) (gj_w2 (gj_w2 (gj_w2 (gj_w2 (gj_w2 SJ 59 0 (i6 X)) 59 1 (i6 Y)) 59 2 (i6 Z)) 55 6 (i6 L')) 55 7 (i6 (X + Y + Z))))) ∧ (¬ ((i6 (X + Y + Z)) * (SJ 55 6)) < ((SJ 55 7) * (i6 L')) → (HS E K (i3 i) (i3 j) (i3 k) (i3 0) SI SJ))) := by
    intro hpp
    rw [ic_t hpp] at h
    obtain ⟨wd, q0, q1, q2⟩ := hpd hpp
    obtain ⟨c0, c1, c2⟩ := hp.mp hpp
    have lp := lpos c0
    have wd2 := wd
    obtain ⟨v1, v2, v3, v4⟩ := wd2
    have sumd : (X + Y + Z) * d.2.2.2 = sumC d * L' ∧ 0 ≤ X + Y + Z ∧ X + Y + Z ≤ 120000000000 := by
      have m3 : d.1 = 1 ∨ d.1 = 2 ∨ d.1 = 3 := by omega
      have ex : (X + Y + Z) * d.2.2.2 = X * d.2.2.2 + Y * d.2.2.2 + Z * d.2.2.2 := by grind
      have s1 : sumK d.2.2.1 1 = 0 + ck d.2.2.1 0 := rfl
      have s2 : sumK d.2.2.1 2 = 0 + ck d.2.2.1 0 + ck d.2.2.1 1 := rfl
      have s3 : sumK d.2.2.1 3 = 0 + ck d.2.2.1 0 + ck d.2.2.1 1 + ck d.2.2.1 2 := rfl
      unfold sumC
      rcases m3 with e | e | e
      · obtain ⟨y0, z0⟩ := hyz.1 e
        have Y0 : Y * d.2.2.2 = 0 ∧ Z * d.2.2.2 = 0 ∧ Y = 0 ∧ Z = 0 := by
          have a : Y = 0 := hY0 y0
          have b : Z = 0 := hZ0 z0
          rw [a, b]; simp
        rw [e, s1, ex, q0, Y0.1, Y0.2.1, Int.zero_add]
        refine ⟨by omega, by omega, by omega⟩
      · have z0 := hyz.2 e
        have Z0 : Z * d.2.2.2 = 0 ∧ Z = 0 := by
          have b : Z = 0 := hZ0 z0
          rw [b]; simp
        have cc := c1 (by omega)
        rw [e, s2, ex, q0, q1 (by omega), Z0.1, Int.zero_add, Int.add_mul]
        refine ⟨by omega, by omega, by omega⟩
      · have cc := c1 (by omega)
        have cd := c2 (by omega)
        rw [e, s3, ex, q0, q1 (by omega), q2 (by omega), Int.zero_add, Int.add_mul, Int.add_mul]
        refine ⟨rfl, by omega, by omega⟩
    have fin : stepB b d = some d → (HS E K (i3 i) (i3 j) (i3 k) (i3 1) (gj_u2 (gj_u2 SI 55 8 (i3 1)) 55 5 (i3 d.1)) (gj_w2 (gj_w2 (gj_w2 (gj_w2 (gj_w2 SJ 59 0 (i6 X)) 59 1 (i6 Y)) 59 2 (i6 Z)) 55 6 (i6 L')) 55 7 (i6 (X + Y + Z)))) := by
      intro es
      rw [es] at h
      refine ⟨Or.inr rfl, fun c => absurd c (by decide), fun _ => st_22 _ _ _ _ _ ?_⟩
      refine h _ _ (((((FI.rf.u (by unfold LIH; omega)).u (by unfold LIH; omega)).u (by unfold LIH; omega)).u (by unfold LIH; omega)).u (by unfold LIH; omega)) (((((FJ.rf.w (by unfold LJH; omega)).w (by unfold LJH; omega)).w (by unfold LJH; omega)).w (by unfold LJH; omega)).w (by unfold LJH; omega)) ⟨?_, ?_, L', X + Y + Z, ?_, ?_, ⟨lp, by omega⟩, sumd.2, sumd.1, fun t ht => ?_⟩ wd
      · rw [u2_n (by omega), u2_n (by omega), u2_n (by omega), u2_n (by omega), u2_s]
      · rw [u2_n (by omega), u2_n (by omega), u2_n (by omega), u2_s]
      · rw [w2_n (by omega), w2_s]
      · rw [w2_s]
      · rw [hr]
        have t3 : t = 0 ∨ t = 1 ∨ t = 2 := by omega
        rcases t3 with rfl | rfl | rfl
        · refine ⟨by rw [u2_n (by omega), u2_n (by omega), u2_s]; rfl, X, by rw [w2_n (by omega), w2_n (by omega), w2_n (by omega), w2_n (by omega), w2_s], by omega, q0⟩
        · have cc := c1 (by omega)
          refine ⟨by rw [u2_n (by omega), u2_s]; rfl, Y, by rw [w2_n (by omega), w2_n (by omega), w2_n (by omega), w2_s], by omega, q1 (by omega)⟩
        · have cc := c2 (by omega)
          refine ⟨by rw [u2_s]; rfl, Z, by rw [w2_n (by omega), w2_n (by omega), w2_s], by omega, q2 (by omega)⟩
    cases b with
    | none =>
      have hb' : SI 55 8 = i3 0 := hb
      rw [hb']
      exact ⟨fun _ => fin rfl, fun c => absurd rfl c⟩
    | some e =>
      obtain ⟨g1, g2, L, S, g3, g4, g5, g6, g7, g8⟩ := hb
      have we : WC e := hwb
      rw [g1, g3, g4, i6_mul, i6_mul]
      have m1 := mul_b (a := X + Y + Z) (b := L) (m := 120000000000) (n := 30000000) (by omega) (by omega)
      have m2 := mul_b (a := S) (b := L') (m := 120000000000) (n := 30000000) (by omega) (by omega)
      rw [i6_lt (by omega) (by omega) (by omega) (by omega), pr_cmp lp g5.1 v2 we.2.1 sumd.1 g7]
      refine ⟨fun c => absurd c (by decide), fun _ => ⟨fun c => fin (if_pos c), fun c => ⟨Or.inl rfl, fun _ => ?_, fun c2 => absurd rfl c2⟩⟩⟩
      have es : stepB (some e) d = some e := if_neg c
      rw [es] at h
      exact h SI SJ FI.rf FJ.rf ⟨g1, g2, L, S, g3, g4, g5, g6, g7, g8⟩ hwb
  refine ⟨fun c => fail (fun q => by have := (hp.mp q).1; omega), fun c => ⟨fun c1 => ⟨fun c2 => tail (hp.mpr ⟨by omega, fun q => by omega, fun q => by omega⟩), fun c2 => by omega⟩, fun c1 => ⟨fun c2 => fail (fun q => by have := (hp.mp q).2.1 (by omega); omega), fun c2 => ⟨fun c3 => tail (hp.mpr ⟨by omega, fun q => by omega, fun q => by omega⟩), fun c3 => ⟨fun c4 => tail (hp.mpr ⟨by omega, fun q => by omega, fun q => by omega⟩), fun c4 => fail (fun q => by have := (hp.mp q).2.2 (by omega); omega)⟩⟩⟩⟩⟩
theorem sp_hstep2 {K : gj_I → gj_J → Prop} {am : Int32} {ax ay az al : Int64} {ai aj ak : Int32} (b : Option Cd) (d : Cd) (p : Prop) (x y z l : Int) (i j k : Nat) (hb : RH b SI SJ) (hwb : WB b) (xb : x.natAbs ≤ 40000000000) (yb : y.natAbs ≤ 40000000000) (zb : z.natAbs ≤ 40000000000) (lb : l.natAbs ≤ 30000000) (hm : 1 ≤ d.1 ∧ d.1 ≤ 3) (hyz : (d.1 = 1 → y = 0 ∧ z = 0) ∧ (d.1 = 2 → z = 0)) (hp : p ↔ (0 < l.sign * x ∧ (1 < d.1 → 0 < l.sign * y) ∧ (2 < d.1 → 0 < l.sign * z))) (hpd : p → WC d ∧ (l.sign * x) * d.2.2.2 = ck d.2.2.1 0 * (l.sign * l) ∧ (1 < d.1 → (l.sign * y) * d.2.2.2 = ck d.2.2.1 1 * (l.sign * l)) ∧ (2 < d.1 → (l.sign * z) * d.2.2.2 = ck d.2.2.1 2 * (l.sign * l))) (hr : d.2.1 = (i, j, k)) (e0 : am = i3 d.1) (e1 : ax = i6 x) (e2 : ay = i6 y) (e3 : az = i6 z) (e4 : al = i6 l) (e5 : ai = i3 i) (e6 : aj = i3 j) (e7 : ak = i3 k) (h : ∀ SI' SJ', FI LIH SI SI' → FJ LJH SJ SJ' → RH (ic p (stepB b d) b) SI' SJ' → WB (ic p (stepB b d) b) → K SI' SJ') : DoI E 21 [(.ref 55), (.int am), (.long ax), (.long ay), (.long az), (.long al)] SI SJ (HS E K ai aj ak) := by
  subst e4
  have core := sp_hcore (E := E) b d p x y z l i j k hb hwb xb yb zb lb hm hyz hp hpd hr e0 e1 e2 e3 rfl e5 e6 e7 h
  have fail0 : l = 0 → HS E K ai aj ak (i3 0) SI SJ := fun q => by
    have np : ¬ p := fun y => by
      have y2 := (hp.mp y).1
      rw [q] at y2; simp at y2
    rw [ic_f np] at h
    exact ⟨Or.inl rfl, fun _ => h SI SJ FI.rf FJ.rf hb hwb, fun c => absurd rfl c⟩
  refine st_21 _ _ _ _ _ SI SJ ?_
  rw [ge_iff_le, i6_le (a := 0) (b := l) (by omega) (by omega) (by omega) (by omega), i6_eq (a := l) (b := 0) (by omega) (by omega) (by omega) (by omega), i3_64 (a := 1) (by omega) (by omega), i3_64 (a := -1) (by omega) (by omega)]
  refine ⟨fun c => ⟨fun c2 => fail0 c2, fun c2 => ?_⟩, fun c => ⟨fun c2 => fail0 c2, fun c2 => ?_⟩⟩
  · rw [Int.sign_eq_one_of_pos (show 0 < l by omega)] at core; exact core
  · rw [Int.sign_eq_neg_one_of_neg (show l < 0 by omega)] at core; exact core
theorem sp_hstep {K : gj_I → gj_J → Prop} {am : Int32} {ax ay az al : Int64} {ai aj ak : Int32} (b : Option Cd) (d : Cd) (p : Prop) (x y z l : Int) (i j k : Nat) (hb : RH b SI SJ) (hwb : WB b) (xb : x.natAbs ≤ 40000000000) (yb : y.natAbs ≤ 40000000000) (zb : z.natAbs ≤ 40000000000) (lb : l.natAbs ≤ 30000000) (hm : 1 ≤ d.1 ∧ d.1 ≤ 3) (hyz : (d.1 = 1 → y = 0 ∧ z = 0) ∧ (d.1 = 2 → z = 0)) (hp : p ↔ (0 < l.sign * x ∧ (1 < d.1 → 0 < l.sign * y) ∧ (2 < d.1 → 0 < l.sign * z))) (hpd : p → WC d ∧ (l.sign * x) * d.2.2.2 = ck d.2.2.1 0 * (l.sign * l) ∧ (1 < d.1 → (l.sign * y) * d.2.2.2 = ck d.2.2.1 1 * (l.sign * l)) ∧ (2 < d.1 → (l.sign * z) * d.2.2.2 = ck d.2.2.1 2 * (l.sign * l))) (hr : d.2.1 = (i, j, k)) (e0 : am = i3 d.1) (e1 : ax = i6 x) (e2 : ay = i6 y) (e3 : az = i6 z) (e4 : al = i6 l) (e5 : ai = i3 i) (e6 : aj = i3 j) (e7 : ak = i3 k) (h : ∀ SI' SJ', FI LIH SI SI' → FJ LJH SJ SJ' → RH (ic p (stepB b d) b) SI' SJ' → WB (ic p (stepB b d) b) → K SI' SJ') : DoI E 21 [(.ref 55), (.int am), (.long ax), (.long ay), (.long az), (.long al)] SI SJ (fun r1 SI2 SJ2 => (r1 = 0 → K SI2 SJ2) ∧ (¬ r1 = 0 → DoV E 22 [(.ref 55), (.int ai), (.int aj), (.int ak)] SI2 SJ2 (fun SI4 SJ4 => K SI4 SJ4))) :=
  (sp_hstep2 b d p x y z l i j k hb hwb xb yb zb lb hm hyz hp hpd hr e0 e1 e2 e3 e4 e5 e6 e7 h).mono (fun _ _ _ q => q.2)
end Hold
