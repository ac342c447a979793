/-! 68: the reference's weight, tilt -/
def wtA (b : Option Cd) (T w : Int) : Int := match b with
  | none => -9000000000000000000
  | some c => if w = 0 then lox (lox (sumC c) c.2.2.2) (loy (sumC c) c.2.2.2 * T) else loy (lox (sumC c) c.2.2.2) (loy (sumC c) c.2.2.2 * T)
def isG (x y w : Int) : Prop := (-9 ≤ x ∧ x ≤ 9) ∧ (-9 ≤ y ∧ y ≤ 9) ∧ 0 ≤ w ∧ w ≤ 1
noncomputable def weightA (F : Nat → Int) (x y w : Int) : Int := ic (isG x y w) (wtA (hdF F (wtP F x y)) (wtT F) w) (-9000000000000000000)
def Wa (F : Nat → Int) : Prop := 0 < ar F (nC F)
def LJw (o k : Nat) : Prop := LJh o k ∨ (o = 81 ∧ k = 33)
theorem LJw_R {A B : gj_J} (h : FJ LJw A B) : FJ LRJ A B := h.le (fun o k z => by unfold LJw LJh at z; unfold LRJ; omega)
section Weight
variable {E : gj_E} {SI : gj_I} {SJ : gj_J} {F : Nat → Int}
theorem sp_weight {Q : Int64 → gj_I → gj_J → Prop} {a1 a2 a3 : Int32} (hR : RF F SI) (hW : Wp F) (hT : Wt F) (hN : Wn F) (hA : Wa F) (x y w : Int) (xr : -2147483648 ≤ x ∧ x < 2147483648) (yr : -2147483648 ≤ y ∧ y < 2147483648) (wr : -2147483648 ≤ w ∧ w < 2147483648) (e1 : a1 = i3 x) (e2 : a2 = i3 y) (e3 : a3 = i3 w) (h : ∀ SI' SJ', FI LRI SI SI' → FJ LRJ SJ SJ' → Q (i6 (weightA F x y w)) SI' SJ') : DoL E 234 [(.ref 81), (.int a1), (.int a2), (.int a3)] SI SJ Q := by
  subst e1; subst e2; subst e3
  have bad : ¬ isG x y w → Q (i6 (-9000000000000000000)) SI SJ := by
    intro z
    have e : weightA F x y w = -9000000000000000000 := ic_f z
    have hh := h SI SJ FI.rf FJ.rf
    rw [e] at hh; exact hh
  have wb := wtT_b hW.1
  have wp : 0 < wtT F := by unfold wtT; unfold Wa at hA; omega
  refine st_234 _ _ _ SI SJ ?_
  rw [i3_64 (by omega) (by omega), i3_64 (by omega) (by omega), i3_64 (by omega) (by omega)]
  refine sp_in (by omega) (by omega) (by omega) (by omega) (by omega) (by omega) ⟨fun z => ?_, fun z => sp_in (by omega) (by omega) (by omega) (by omega) (by omega) (by omega) ⟨fun z2 => ?_, fun z2 => sp_in (by omega) (by omega) (by omega) (by omega) (by omega) (by omega) ⟨fun z3 => ?_, fun z3 => ?_⟩⟩⟩
  · rw [ib_0] at z; exact bad (fun c => z c.1)
  · rw [ib_0] at z2; exact bad (fun c => z2 c.2.1)
  · rw [ib_0, Decidable.not_not] at z z2 z3
    refine sp_lays hR hW hT hN (fun A B f1 f2 hL => ?_)
    refine sp_holdsWeight hL (hR.f f1 LI1_n) hW hT hN x y (by omega) (by omega) rfl rfl (fun A2 B2 g1 g2 _ g3 g4 g5 => ?_)
    have hh := h A2 B2 ((LI1_R f1).tr (LIh_R g1)) ((LJ1_R f2).tr (LJw_R g2))
    have e : weightA F x y w = wtA (hdF F (wtP F x y)) (wtT F) w := ic_t ⟨z, z2, z3⟩
    rw [e] at hh
    cases hb : hdF F (wtP F x y) with
    | none =>
      rw [hb] at hh
      exact ⟨fun c => absurd (ibc_0.mpr (by decide)) c, fun _ => hh⟩
    | some c =>
      rw [hb] at hh g3 g4
      obtain ⟨d0, d1, d2, d3⟩ := g3
      have g4' : WC c := g4
      have sb := sumC_b g4'
      obtain ⟨v1, v2, v3, v4⟩ := g4'
      refine ⟨fun _ => ?_, fun c0 => absurd (show (some c).isSome = true from rfl) (ibc_0.mp c0)⟩
      unfold wtA at hh
      dsimp only at hh
      rw [d1, d2, g5, i6_mul]
      have lp := lo_pos (u := sumC c) v2
      generalize lox (sumC c) c.2.2.2 = u at *
      generalize loy (sumC c) c.2.2.2 = l at *
      generalize wtT F = T at *
      have m1 := mul_b (a := l) (b := T) (m := 30000000) (n := 3888) (by omega) (by omega)
      have m2 := Int.mul_pos lp.1 wp
      generalize l * T = L at *
      have lg := lo_gcd (u := u) m2
      have gl : ((Int.gcd u L : Nat) : Int) ≤ 120000000000 := by
        have := Int.gcd_le_right (a := u) (b := L) m2; omega
      refine sp_common (by omega) (by omega) (by omega) (by omega) ?_
      rw [d1, i3_eq0 (by omega) (by omega), i6_eq0 (by omega) (by omega), i6_div (by omega) (by omega) (by omega) (by omega), i6_div (by omega) (by omega) (by omega) (by omega)]
      refine ⟨fun c0 => ⟨by omega, ?_⟩, fun c0 => ⟨by omega, ?_⟩⟩
      · rw [if_neg c0] at hh; exact hh
      · rw [if_pos c0] at hh; exact hh
  · rw [ib_0] at z3; exact bad (fun c => z3 c.2.2)
def tX (k : Nat) : Int := if k < 2 ∨ k = 7 then 1 else if 2 < k ∧ k < 6 then -1 else 0
def tY (k : Nat) : Int := if 0 < k ∧ k < 4 then 1 else if 4 < k then -1 else 0
/-- held with no more than so much effort, the push so many times too great -/
def wiB (b : Option Cd) (m : Int) : Prop := match b with
  | none => False
  | some c => lox (sumC c) c.2.2.2 ≤ m * loy (sumC c) c.2.2.2
noncomputable def tiS (F : Nat → Int) (m : Int) : Nat → Nat
  | 0 => 0
  | k + 1 => ic (wiB (hdF F (wtP F (tX k) (tY k))) (m * wtT F)) (tiS F m k ||| 2 ^ k) (tiS F m k)
noncomputable def tiltA (F : Nat → Int) (m : Int) : Int := if 0 ≤ m ∧ m ≤ 10000 then (tiS F m 8 : Int) else -1
theorem sp_tilt {Q : Int32 → gj_I → gj_J → Prop} {a1 : Int32} (hR : RF F SI) (hW : Wp F) (hT : Wt F) (hN : Wn F) (hA : Wa F) (m : Int) (mr : -2147483648 ≤ m ∧ m < 2147483648) (e1 : a1 = i3 m) (h : ∀ SI' SJ', FI LRI SI SI' → FJ LRJ SJ SJ' → Q (i3 (tiltA F m)) SI' SJ') : DoI E 235 [(.ref 81), (.int a1)] SI SJ Q := by
  subst e1
  have wb := wtT_b hW.1
  refine st_235 _ SI SJ ?_
  rw [i3_64 (by omega) (by omega)]
  refine sp_in (by omega) (by omega) (by omega) (by omega) (by omega) (by omega) ⟨fun z => ?_, fun z => ?_⟩
  · rw [ib_0, Decidable.not_not] at z
    have e : tiltA F m = (tiS F m 8 : Int) := if_pos z
    rw [e] at h
    refine sp_lays hR hW hT hN (fun A0 B0 f1 f2 hL0 => ?_)
    refine up_lp (α := Unit) (P := fun i _ A B => FI LRI SI A ∧ FJ LRJ SJ B ∧ LWF F A B) (G := fun i _ A B => GoI E mt_235 22 [some (.ref 81), some (.int (i3 m)), some (.int (i3 (tiS F m i : Nat))), some (.int (i3 i)), none, none] A B Q) 8 ?_ ?_ 0 () A0 B0 (by omega) ⟨LI1_R f1, LJ1_R f2, hL0⟩
    · rintro _ A B ⟨g1, g2, g3⟩
      exact lp_235_22 _ _ _ A B ⟨fun _ => h A B g1 g2, fun c => absurd (by decide) c⟩
    · rintro i _ A B hi ⟨g1, g2, g3⟩ ih
      have tail : ∀ (gx gy : Int), gx = tX i → gy = tY i → DoI E 233 [(.ref 81), (.int (i3 gx)), (.int (i3 gy))] A B (fun r1 SI2 SJ2 => (r1 = 0 → GoI E mt_235 22 [some (.ref 81), some (.int (i3 m)), some (.int (i3 (tiS F m i : Nat))), some (.int (i3 i + (i3 1))), none, none] SI2 SJ2 Q) ∧ (¬ r1 = 0 → ((SJ2 81 30) > (((i3 m).toInt64 * (SJ2 81 33)) * (SJ2 81 31)) → GoI E mt_235 22 [some (.ref 81), some (.int (i3 m)), some (.int (i3 (tiS F m i : Nat))), some (.int (i3 i + (i3 1))), none, none] SI2 SJ2 Q) ∧ (¬ (SJ2 81 30) > (((i3 m).toInt64 * (SJ2 81 33)) * (SJ2 81 31)) → GoI E mt_235 22 [some (.ref 81), some (.int (i3 m)), some (.int (i3 (tiS F m i : Nat) ||| ((i3 1) <<< (i3 i &&& 31)))), some (.int (i3 i + (i3 1))), none, none] SI2 SJ2 Q))) := by
        intro gx gy hx hy
        subst hx; subst hy
        have tx : (tX i).natAbs ≤ 9 := by unfold tX; repeat' split
                                          all_goals decide
        have ty : (tY i).natAbs ≤ 9 := by unfold tY; repeat' split
                                          all_goals decide
        refine sp_holdsWeight g3 (hR.f g1 LRI_82) hW hT hN (tX i) (tY i) tx ty rfl rfl (fun A2 B2 k1 k2 k3 k4 k5 k6 => ?_)
        have nx : ∀ b : Nat, tiS F m (i + 1) = b → GoI E mt_235 22 [some (.ref 81), some (.int (i3 m)), some (.int (i3 (b : Nat))), some (.int (i3 ((i : Int) + 1))), none, none] A2 B2 Q := by
          intro b hb
          subst hb
          exact ih () A2 B2 ⟨g1.tr (LIh_R k1), g2.tr (LJw_R k2), k3⟩
        rw [i3_add, i3_64 (by omega) (by omega), k6]
        cases hb : hdF F (wtP F (tX i) (tY i)) with
        | none =>
          exact ⟨fun _ => nx _ (ic_f (by rw [hb]; exact fun z => z)), fun c => absurd (ibc_0.mpr (by decide)) c⟩
        | some c =>
          rw [hb] at k4 k5
          obtain ⟨d0, d1, d2, d3⟩ := k4
          have k5' : WC c := k5
          have sb := sumC_b k5'
          obtain ⟨v1, v2, v3, v4⟩ := k5'
          refine ⟨fun c0 => absurd (show (some c).isSome = true from rfl) (ibc_0.mp c0), fun _ => ?_⟩
          have lp := lo_pos (u := sumC c) v2
          have m1 := mul_b (a := m) (b := wtT F) (m := 10000) (n := 3888) (by omega) wb
          have m2 := mul_b (b := loy (sumC c) c.2.2.2) (n := 30000000) m1 (by omega)
          rw [d1, d2, i6_mul, i6_mul, gt_iff_lt, i6_lt (by omega) (by omega) (by omega) (by omega), i3_shl (by omega), i3_or]
          have ew : wiB (hdF F (wtP F (tX i) (tY i))) (m * wtT F) ↔ lox (sumC c) c.2.2.2 ≤ m * wtT F * loy (sumC c) c.2.2.2 := by rw [hb]; exact Iff.rfl
          refine ⟨fun q => nx _ (ic_f (fun y => ?_)), fun q => nx _ (ic_t ?_)⟩
          · rw [ew] at y; omega
          · rw [ew]; omega
      refine lp_235_22 _ _ _ A B ?_
      simp only [i3_le (a := 8) (b := (i : Int)) (by omega) (by omega) (by omega) (by omega), i3_lt (a := (i : Int)) (b := 2) (by omega) (by omega) (by omega) (by omega), i3_le0 (a := (i : Int)) (by omega) (by omega), i3_le (a := (i : Int)) (b := 4) (by omega) (by omega) (by omega) (by omega), i3_le (a := 4) (b := (i : Int)) (by omega) (by omega) (by omega) (by omega), i3_eq (a := (i : Int)) (b := 7) (by omega) (by omega) (by omega) (by omega), i3_le (a := (i : Int)) (b := 2) (by omega) (by omega) (by omega) (by omega), i3_le (a := 6) (b := (i : Int)) (by omega) (by omega) (by omega) (by omega)]
      obtain ⟨P, hP⟩ : ∃ P : Int → Int → Prop, ∀ gx gy, P gx gy = DoI E 233 [(.ref 81), (.int (i3 gx)), (.int (i3 gy))] A B (fun r1 SI2 SJ2 => (r1 = 0 → GoI E mt_235 22 [some (.ref 81), some (.int (i3 m)), some (.int (i3 (tiS F m i : Nat))), some (.int (i3 i + (i3 1))), none, none] SI2 SJ2 Q) ∧ (¬ r1 = 0 → ((SJ2 81 30) > (((i3 m).toInt64 * (SJ2 81 33)) * (SJ2 81 31)) → GoI E mt_235 22 [some (.ref 81), some (.int (i3 m)), some (.int (i3 (tiS F m i : Nat))), some (.int (i3 i + (i3 1))), none, none] SI2 SJ2 Q) ∧ (¬ (SJ2 81 30) > (((i3 m).toInt64 * (SJ2 81 33)) * (SJ2 81 31)) → GoI E mt_235 22 [some (.ref 81), some (.int (i3 m)), some (.int (i3 (tiS F m i : Nat) ||| ((i3 1) <<< (i3 i &&& 31)))), some (.int (i3 i + (i3 1))), none, none] SI2 SJ2 Q))) := ⟨_, fun _ _ => rfl⟩
      have tail2 : P (tX i) (tY i) := by rw [hP]; exact tail _ _ rfl rfl
      have tail3 : ∀ gx gy, gx = tX i → gy = tY i → P gx gy := fun gx gy h1 h2 => by rw [h1, h2]; exact tail2
      simp only [← hP]
      refine ⟨fun _ => by exfalso; omega, fun _ => ?_⟩
      clear tail tail2 hP ih g3 g2 g1 h
      have c8 : i = 0 ∨ i = 1 ∨ i = 2 ∨ i = 3 ∨ i = 4 ∨ i = 5 ∨ i = 6 ∨ i = 7 := by omega
      rcases c8 with rfl | rfl | rfl | rfl | rfl | rfl | rfl | rfl
      all_goals
        repeat' (first | refine And.intro ?_ ?_ | intro _)
        all_goals first
          | exact tail3 _ _ rfl rfl
          | (exfalso; omega)
  · rw [ib_0] at z
    have e : tiltA F m = -1 := if_neg z
    have hh := h SI SJ FI.rf FJ.rf
    rw [e] at hh; exact hh
end Weight
