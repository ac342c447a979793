/-! 70: the reference's load -/
def ldV (F : Nat → Int) (k : Nat) : V3 := (F (117 + 3 * k), F (117 + 3 * k + 1), F (117 + 3 * k + 2))
/-- the greater effort of the two -/
def ldM (b : Option Cd) (a : Int × Int) : Int × Int := match b with
  | none => a
  | some c => if 0 < a.2 ∧ lox (sumC c) c.2.2.2 * a.2 ≤ a.1 * loy (sumC c) c.2.2.2 then a else (lox (sumC c) c.2.2.2, loy (sumC c) c.2.2.2)
abbrev LdT : Type := Nat × (Int × Int) × V3
noncomputable def ldS (F : Nat → Int) (k : Nat) (a : LdT) : LdT := (if (hdF F (ldV F k)).isSome = true then a.1 ||| 2 ^ k else a.1, ldM (hdF F (ldV F k)) a.2.1, (a.2.2.1 + (ldV F k).1, a.2.2.2.1 + (ldV F k).2.1, a.2.2.2.2 + (ldV F k).2.2))
noncomputable def ldAll (F : Nat → Int) : LdT := forN (ldS F) 0 (F 116).toNat (0, (-2, -2), (0, 0, 0))
noncomputable def loadA (F : Nat → Int) (w : Int) : Int := if 0 ≤ w ∧ w ≤ 5 then (if w = 0 then F 116 else if w = 1 then ((ldAll F).1 : Int) else if w = 2 then (ldAll F).2.1.1 else if w = 3 then (ldAll F).2.1.2 else efA (hdF F (ldAll F).2.2) (w - 4) (-2)) else -9000000000000000000
section Load
variable {E : gj_E} {SI : gj_I} {SJ : gj_J} {F : Nat → Int}
theorem ldM_b {b : Option Cd} (hb : WB b) {a : Int × Int} (h : a = (-2, -2) ∨ (0 < a.2 ∧ a.2 ≤ 30000000 ∧ 0 ≤ a.1 ∧ a.1 ≤ 120000000000)) : ldM b a = (-2, -2) ∨ (0 < (ldM b a).2 ∧ (ldM b a).2 ≤ 30000000 ∧ 0 ≤ (ldM b a).1 ∧ (ldM b a).1 ≤ 120000000000) := by
  cases b with
  | none => exact h
  | some c =>
    have hc : WC c := hb
    have sb := sumC_b hc
    have lp := lo_pos (u := sumC c) hc.2.1
    have v3 := hc.2.2.1
    unfold ldM; dsimp only; split
    · exact h
    · right; dsimp only; omega
theorem or_lt {a b n : Nat} (ha : a < 2 ^ n) (hb : b < 2 ^ n) : a ||| b < 2 ^ n := Nat.or_lt_two_pow ha hb
theorem sp_load {Q : Int64 → gj_I → gj_J → Prop} {a1 : Int32} (hR : RF F SI) (hW : Wp F) (hT : Wt F) (hN : Wn F) (hX : Wx F) (w : Int) (wr : -2147483648 ≤ w ∧ w < 2147483648) (e1 : a1 = i3 w) (h : ∀ SI' SJ', FI LRI SI SI' → FJ LRJ SJ SJ' → Q (i6 (loadA F w)) SI' SJ') : DoL E 239 [(.ref 81), (.int a1)] SI SJ Q := by
  subst e1
  obtain ⟨-, -, x1, x2, x3⟩ := hX
  refine st_239 _ SI SJ ?_
  rw [i3_64 (by omega) (by omega)]
  refine sp_in (by omega) (by omega) (by omega) (by omega) (by omega) (by omega) ⟨fun z => ?_, fun z => ?_⟩
  · rw [ib_0, Decidable.not_not] at z
    have e : loadA F w = (if w = 0 then F 116 else if w = 1 then ((ldAll F).1 : Int) else if w = 2 then (ldAll F).2.1.1 else if w = 3 then (ldAll F).2.1.2 else efA (hdF F (ldAll F).2.2) (w - 4) (-2)) := if_pos z
    rw [e] at h
    obtain ⟨n, hn⟩ : ∃ n : Nat, F 116 = n := ⟨(F 116).toNat, by omega⟩
    have ea : ldAll F = forN (ldS F) 0 n (0, (-2, -2), (0, 0, 0)) := by unfold ldAll; rw [hn]; rfl
    refine sp_lays hR hW hT hN (fun A0 B0 f1 f2 hL0 => ?_)
    refine for_lp (f := ldS F) (n := n) (R := fun i (a : LdT) A B => FI LRI SI A ∧ FJ LRJ SJ B ∧ LWF F A B ∧ a.1 < 2 ^ 6 ∧ (a.2.1 = (-2, -2) ∨ (0 < a.2.1.2 ∧ a.2.1.2 ≤ 30000000 ∧ 0 ≤ a.2.1.1 ∧ a.2.1.1 ≤ 120000000000)) ∧ a.2.2.1.natAbs ≤ 999 * i ∧ a.2.2.2.1.natAbs ≤ 999 * i ∧ a.2.2.2.2.natAbs ≤ 999 * i) (G := fun i (a : LdT) A B => GoL E mt_239 43 [some (.ref 81), some (.int (i3 w)), some (.int (i3 (a.1 : Nat))), some (.long (i6 a.2.1.1)), none, some (.long (i6 a.2.1.2)), none, some (.long (i6 a.2.2.1)), none, some (.long (i6 a.2.2.2.1)), none, some (.long (i6 a.2.2.2.2)), none, some (.int (i3 (i : Nat))), none] A B Q) ?_ n 0 (0, (-2, -2), (0, 0, 0)) A0 B0 (by omega) ⟨LI1_R f1, LJ1_R f2, hL0, by decide, Or.inl rfl, by decide, by decide, by decide⟩ ?_
    · rintro i a A B hi ⟨g1, g2, g3, g4, g5, g6, g7, g8⟩ ih
      have hRA := hR.f g1 LRI_82
      obtain ⟨s, ⟨u, l⟩, ⟨sx, sy, st⟩⟩ := a
      dsimp only at g4 g5 g6 g7 g8 ih ⊢
      have y1 := x3 (3 * i) (by omega)
      have y2 := x3 (3 * i + 1) (by omega)
      have y3 := x3 (3 * i + 2) (by omega)
      rw [show 117 + (3 * i + 1) = 117 + 3 * i + 1 by omega] at y2
      rw [show 117 + (3 * i + 2) = 117 + 3 * i + 2 by omega] at y3
      have q1 := hRA (117 + 3 * i) (by omega)
      have q2 := hRA (117 + 3 * i + 1) (by omega)
      have q3 := hRA (117 + 3 * i + 2) (by omega)
      refine lp_239_43 _ _ _ _ _ _ _ _ A B ⟨fun q => ?_, fun q => ?_⟩
      · rw [hRA 116 (by decide), hn, i3_le (by omega) (by omega) (by omega) (by omega)] at q; omega
      · simp only [i3_mul, i3_add]
        rw [i3_in (by omega) (by omega), i3_in (by omega) (by omega), i3_in (by omega) (by omega), i3_n (by omega) (by omega), i3_n (by omega) (by omega), i3_n (by omega) (by omega), show (117 + 3 * (i : Int)).toNat = 117 + 3 * i by omega, show (117 + 3 * (i : Int) + 1).toNat = 117 + 3 * i + 1 by omega, show (117 + 3 * (i : Int) + 2).toNat = 117 + 3 * i + 2 by omega, q1, q2, q3]
        rw [i3_64 (by omega) (by omega), i3_64 (by omega) (by omega), i3_64 (by omega) (by omega), i3_shl (by omega), i3_or]
        simp only [i6_add]
        have hst : ldS F i (s, (u, l), (sx, sy, st)) = (if (hdF F (ldV F i)).isSome = true then s ||| 2 ^ i else s, ldM (hdF F (ldV F i)) (u, l), (sx + F (117 + 3 * i), sy + F (117 + 3 * i + 1), st + F (117 + 3 * i + 2))) := rfl
        rw [hst] at ih
        refine ⟨by omega, by omega, by omega, sp_holdsF g3 hW hT hN (ldV F i) (by unfold Rb ldV; dsimp only; omega) rfl rfl rfl (fun A2 B2 k1 k2 k3 k4 k5 => ?_)⟩
        have p6 : 2 ^ i < 2 ^ 6 := Nat.pow_lt_pow_right (by decide) (by omega)
        have mb := ldM_b k5 (a := (u, l)) (by simpa using g5)
        cases hb : hdF F (ldV F i) with
        | none =>
          rw [hb] at ih
          refine ⟨fun c => absurd (ibc_0.mpr (by decide)) c, fun _ => ?_⟩
          exact ih A2 B2 ⟨g1.tr (LIh_R k1), g2.tr (LJh_R k2), k3, g4, g5, by dsimp only; omega, by dsimp only; omega, by dsimp only; omega⟩
        | some c =>
          rw [hb] at ih k4 k5 mb
          rw [show (if (some c).isSome = true then s ||| 2 ^ i else s) = s ||| 2 ^ i from rfl] at ih
          obtain ⟨d0, d1, d2, d3⟩ := k4
          have k5' : WC c := k5
          have sb := sumC_b k5'
          obtain ⟨v1, v2, v3, v4⟩ := k5'
          have lp := lo_pos (u := sumC c) v2
          refine ⟨fun _ => ?_, fun c0 => absurd (show (some c).isSome = true from rfl) (ibc_0.mp c0)⟩
          have nx := ih A2 B2 ⟨g1.tr (LIh_R k1), g2.tr (LJh_R k2), k3, or_lt g4 p6, mb, by dsimp only; omega, by dsimp only; omega, by dsimp only; omega⟩
          clear ih
          have lb : l.natAbs ≤ 30000000 ∧ u.natAbs ≤ 120000000000 := by
            rcases g5 with g | g
            · have e1 : u = -2 := congrArg Prod.fst g
              have e2 : l = -2 := congrArg Prod.snd g
              omega
            · omega
          have m1 := mul_b (a := lox (sumC c) c.2.2.2) (b := l) (m := 120000000000) (n := 30000000) (by omega) (by omega)
          have m2 := mul_b (a := u) (b := loy (sumC c) c.2.2.2) (m := 120000000000) (n := 30000000) (by omega) (by omega)
          rw [d1, d2, i6_mul, i6_mul, gt_iff_lt, i6_lt (by omega) (by omega) (by omega) (by omega), i6_le (by omega) (by omega) (by omega) (by omega)]
          unfold ldM at nx
          dsimp only at nx
          refine ⟨fun c1 => ?_, fun c1 => ⟨fun c2 => ?_, fun c2 => ?_⟩⟩
          · rw [if_neg (by omega)] at nx; exact nx
          · rw [if_neg (by omega)] at nx; exact nx
          · rw [if_pos (by omega)] at nx; exact nx
    · rw [← ea]
      rintro A B ⟨g1, g2, g3, g4, g5, g6, g7, g8⟩
      have hRA := hR.f g1 LRI_82
      have hh := h A B g1 g2
      generalize ldAll F = a at *
      obtain ⟨s, ⟨u, l⟩, ⟨sx, sy, st⟩⟩ := a
      dsimp only at g4 g5 g6 g7 g8 hh ⊢
      refine lp_239_43 _ _ _ _ _ _ _ _ A B ⟨fun _ => ?_, fun q => ?_⟩
      · rw [hRA 116 (by decide), hn, i3_eq (by omega) (by omega) (by omega) (by omega), i3_eq (by omega) (by omega) (by omega) (by omega), i3_eq (by omega) (by omega) (by omega) (by omega), i3_eq (by omega) (by omega) (by omega) (by omega), i3_eq (by omega) (by omega) (by omega) (by omega), i3_t (by omega) (by omega), i3_64 (by omega) (by omega), i3_64 (by omega) (by omega)]
        rw [hn] at hh
        refine ⟨fun q => ?_, fun q => ?_, fun q => ?_, fun q => ?_, fun q => ?_⟩
        · rw [if_pos q] at hh; exact hh
        · rw [if_neg (by omega), if_pos q] at hh; exact hh
        · rw [if_neg (by omega), if_neg (by omega), if_pos q] at hh; exact hh
        · rw [if_neg (by omega), if_neg (by omega), if_neg (by omega), if_pos q] at hh; exact hh
        · refine sp_holdsF g3 hW hT hN (sx, sy, st) (by unfold Rb; dsimp only; omega) rfl rfl rfl (fun A2 B2 k1 k2 k3 k4 k5 => ?_)
          have hh := h A2 B2 (g1.tr (LIh_R k1)) (g2.tr (LJh_R k2))
          rw [if_neg (by omega), if_neg (by omega), if_neg (by omega), if_neg (by omega)] at hh
          cases hb : hdF F (sx, sy, st) with
          | none =>
            rw [hb] at hh
            exact ⟨fun c => absurd (ibc_0.mpr (by decide)) c, fun _ => hh⟩
          | some c =>
            rw [hb] at hh k4
            obtain ⟨d0, d1, d2, d3⟩ := k4
            rw [d1, d2]
            refine ⟨fun _ => ⟨fun c0 => ?_, fun c0 => ?_⟩, fun c0 => absurd (show (some c).isSome = true from rfl) (ibc_0.mp c0)⟩
            · have e2 : efA (some c) (w - 4) (-2) = loy (sumC c) c.2.2.2 := if_neg (by omega)
              rw [e2] at hh; exact hh
            · have e2 : efA (some c) (w - 4) (-2) = lox (sumC c) c.2.2.2 := if_pos (by omega)
              rw [e2] at hh; exact hh
      · rw [hRA 116 (by decide), hn, i3_le (by omega) (by omega) (by omega) (by omega)] at q; omega
  · rw [ib_0] at z
    have e : loadA F w = -9000000000000000000 := if_neg z
    have hh := h SI SJ FI.rf FJ.rf
    rw [e] at hh; exact hh
end Load
