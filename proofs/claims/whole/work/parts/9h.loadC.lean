/-! 9h: load of the class -/
def pos1 (l : Int) : Int := if l < 0 then 1 else l
theorem pos1_p {l : Int} (h : 0 < l) : pos1 l = l := if_neg (by omega)
section LoadC
variable {E : gj_E} {SI : gj_I} {SJ : gj_J} {F : Nat → Int}
theorem sp_more56 {Q : Int32 → gj_I → gj_J → Prop} {a b : Int64} (c : Cd) (hc : WC c) (h0 : SJ 56 0 = i6 (lox (sumC c) c.2.2.2)) (h1 : SJ 56 1 = i6 (loy (sumC c) c.2.2.2)) (x y : Int) (hx : x.natAbs ≤ 120000000000) (hy : y.natAbs ≤ 30000000) (ea : a = i6 x) (eb : b = i6 y) (h : Q (ibc (x * loy (sumC c) c.2.2.2 < lox (sumC c) c.2.2.2 * y)) SI SJ) : DoI E 15 [(.ref 56), (.long a), (.long b)] SI SJ Q := by
  subst ea; subst eb
  have sb := sumC_b hc
  have lp := lo_pos (u := sumC c) hc.2.1
  have v3 := hc.2.2.1
  have m1 := mul_b (a := lox (sumC c) c.2.2.2) (b := y) (m := 120000000000) (n := 30000000) (by omega) hy
  have m2 := mul_b (a := x) (b := loy (sumC c) c.2.2.2) (m := 120000000000) (n := 30000000) hx (by omega)
  refine st_15_56 _ _ SI SJ ?_
  rw [h0, h1, i6_mul, i6_mul, i6_le (by omega) (by omega) (by omega) (by omega)]
  refine ⟨fun z => ?_, fun z => ?_⟩
  · rw [ibc_f (fun q => by omega)] at h; exact h
  · rw [ibc_t (by omega)] at h; exact h
theorem ldV_b (hX : Wx F) {i : Nat} (hi : i < 6) : Rb (ldV F i) ∧ (-999 ≤ (ldV F i).1 ∧ (ldV F i).1 ≤ 999) ∧ (-999 ≤ (ldV F i).2.1 ∧ (ldV F i).2.1 ≤ 999) ∧ (-999 ≤ (ldV F i).2.2 ∧ (ldV F i).2.2 ≤ 999) := by
  obtain ⟨-, -, -, -, x3⟩ := hX
  have y1 := x3 (3 * i) (by omega)
  have y2 := x3 (3 * i + 1) (by omega)
  have y3 := x3 (3 * i + 2) (by omega)
  rw [show 117 + (3 * i + 1) = 117 + 3 * i + 1 by omega] at y2
  rw [show 117 + (3 * i + 2) = 117 + 3 * i + 2 by omega] at y3
  refine ⟨?_, y1, y2, y3⟩
  unfold Rb ldV; dsimp only; omega
theorem sp_bearsLoad {Q : Int32 → gj_I → gj_J → Prop} {a : Int32} (hC : CNT F SI SJ) (hF : WF F) (i : Nat) (hi : (i : Int) < F 116) (ha : a = i3 i) (h : ∀ SI' SJ', FI LIk SI SI' → FJ LJsk SJ SJ' → CNT F SI' SJ' → WB (hdF F (ldV F i)) → efO (hdF F (ldV F i)) SJ' → Q (ibc ((hdF F (ldV F i)).isSome = true)) SI' SJ') : DoI E 143 [(.ref 0), (.int a)] SI SJ Q := by
  subst ha
  have hX := hF.2.2.2.2.2
  have x2 := hX.2.2.2.1
  obtain ⟨rb, y1, y2, y3⟩ := ldV_b hX (i := i) (by omega)
  obtain ⟨-, -, p3⟩ := hC.1.2.2.2.2
  have q1 := p3 (3 * i) (by omega)
  have q2 := p3 (3 * i + 1) (by omega)
  have q3 := p3 (3 * i + 2) (by omega)
  have e1 : F (117 + 3 * i) = (ldV F i).1 := rfl
  have e2 : F (117 + (3 * i + 1)) = (ldV F i).2.1 := rfl
  have e3 : F (117 + (3 * i + 2)) = (ldV F i).2.2 := rfl
  rw [e1] at q1
  rw [e2] at q2
  rw [e3] at q3
  refine st_143 _ SI SJ ?_
  simp only [i3_mul, i3_add]
  rw [i3_in (by omega) (by omega), i3_in (by omega) (by omega), i3_in (by omega) (by omega), i3_n (by omega) (by omega), i3_n (by omega) (by omega), i3_n (by omega) (by omega), show (3 * (i : Int)).toNat = 3 * i by omega, show (3 * (i : Int) + 1).toNat = 3 * i + 1 by omega, show (3 * (i : Int) + 2).toNat = 3 * i + 2 by omega, q1, q2, q3, i3_64 (by omega) (by omega), i3_64 (by omega) (by omega), i3_64 (by omega) (by omega)]
  exact ⟨by omega, by omega, by omega, sp_seekF hC hF (ldV F i) rb rfl rfl rfl (fun A B f1 f2 hc _ g2 g3 => ⟨ibc_01, h A B f1 f2 hc g2 g3⟩)⟩
theorem sp_loadC {Q : Int64 → gj_I → gj_J → Prop} {a : Int32} (hC : CNT F SI SJ) (hF : WF F) (w : Int) (wr : -2147483648 ≤ w ∧ w < 2147483648) (ha : a = i3 w) (h : ∀ SI' SJ', FI LCI SI SI' → FJ LCJ SJ SJ' → CNT F SI' SJ' → Q (i6 (loadA F w)) SI' SJ') : DoL E 142 [(.ref 0), (.int a)] SI SJ Q := by
  subst ha
  have hX := hF.2.2.2.2.2
  have x1 := hX.2.2.1
  have x2 := hX.2.2.2.1
  obtain ⟨n, hn⟩ : ∃ n : Nat, F 116 = n := ⟨(F 116).toNat, by omega⟩
  have ea : ldAll F = forN (ldS F) 0 n (0, (-2, -2), (0, 0, 0)) := by unfold ldAll; rw [hn]; rfl
  have e12 : ∀ A B, CNT F A B → A 3 12 = i3 (n : Nat) := fun A B hc => by rw [hc.1.2.2.2.2.2.1, hn]
  have p6 : ∀ i, i < n → 2 ^ i < 2 ^ 6 := fun i hi => Nat.pow_lt_pow_right (by decide) (by omega)
  -- the three loops
  have held : ∀ (K : Int32 → gj_I → gj_J → Prop), (∀ A B, FI LIk SI A → FJ LJsk SJ B → CNT F A B → (ldAll F).1 < 64 → K (i3 ((ldAll F).1 : Nat)) A B) → DoI E 144 [(.ref 0)] SI SJ K := by
    intro K hK
    refine st_144 SI SJ ?_
    refine for_lp (f := ldS F) (n := n) (R := fun i (a : LdT) A B => FI LIk SI A ∧ FJ LJsk SJ B ∧ CNT F A B ∧ a.1 < 2 ^ 6) (G := fun i (a : LdT) A B => GoI E mt_144 4 [some (.ref 0), some (.int (i3 (a.1 : Nat))), some (.int (i3 (i : Nat)))] A B K) ?_ n 0 (0, (-2, -2), (0, 0, 0)) SI SJ (by omega) ⟨FI.rf, FJ.rf, hC, by decide⟩ ?_
    · rintro i a A B hi ⟨g1, g2, g3, g4⟩ ih
      refine lp_144_4 _ _ A B ⟨fun q => ?_, fun q => sp_bearsLoad g3 hF i (by omega) rfl (fun A2 B2 f1 f2 hc hw ef => ⟨fun c => ?_, fun c => ?_⟩)⟩
      · rw [e12 A B g3, i3_le (by omega) (by omega) (by omega) (by omega)] at q; omega
      · rw [ibc_0] at c
        rw [i3_add]
        have e1 : (ldS F i a).1 = a.1 := if_neg c
        have := ih A2 B2 ⟨g1.tr f1, g2.tr f2, hc, by rw [e1]; exact g4⟩
        rw [e1] at this; exact this
      · rw [ibc_0, Classical.not_not] at c
        have e1 : (ldS F i a).1 = a.1 ||| 2 ^ i := if_pos c
        have := ih A2 B2 ⟨g1.tr f1, g2.tr f2, hc, by rw [e1]; exact or_lt g4 (p6 i hi)⟩
        rw [e1] at this
        rw [i3_add, i3_shl (by omega), i3_or]; exact this
    · rw [← ea]
      rintro A B ⟨g1, g2, g3, g4⟩
      refine lp_144_4 _ _ A B ⟨fun _ => hK A B g1 g2 g3 g4, fun q => ?_⟩
      rw [e12 A B g3, i3_le (by omega) (by omega) (by omega) (by omega)] at q; omega
  have great : ∀ (ab : Int) (K : Int64 → gj_I → gj_J → Prop), ab = 0 ∨ ab = 1 → (∀ A B, FI LIk SI A → FJ LJsk SJ B → CNT F A B → K (i6 (if ab = 0 then (ldAll F).2.1.2 else (ldAll F).2.1.1)) A B) → DoL E 145 [(.ref 0), (.int (i3 ab))] SI SJ K := by
    intro ab K hab hK
    refine st_145 _ SI SJ ?_
    refine for_lp (f := ldS F) (n := n) (R := fun i (a : LdT) A B => FI LIk SI A ∧ FJ LJsk SJ B ∧ CNT F A B ∧ (a.2.1 = (-2, -2) ∨ (0 < a.2.1.2 ∧ a.2.1.2 ≤ 30000000 ∧ 0 ≤ a.2.1.1 ∧ a.2.1.1 ≤ 120000000000))) (G := fun i (a : LdT) A B => GoL E mt_145 10 [some (.ref 0), some (.int (i3 ab)), some (.long (i6 a.2.1.1)), none, some (.long (i6 (pos1 a.2.1.2))), none, some (.int (i3 (i : Nat)))] A B K) ?_ n 0 (0, (-2, -2), (0, 0, 0)) SI SJ (by omega) ⟨FI.rf, FJ.rf, hC, Or.inl rfl⟩ ?_
    · rintro i ⟨s, ⟨u, l⟩, sm⟩ A B hi ⟨g1, g2, g3, g4⟩ ih
      have hst : (ldS F i (s, (u, l), sm)).2.1 = ldM (hdF F (ldV F i)) (u, l) := rfl
      refine lp_145_10 _ _ _ _ A B ⟨fun q => ?_, fun q => sp_bearsLoad g3 hF i (by omega) rfl (fun A2 B2 f1 f2 hc hw ef => ?_)⟩
      · rw [e12 A B g3, i3_le (by omega) (by omega) (by omega) (by omega)] at q; omega
      · have mb := ldM_b hw (a := (u, l)) g4
        have nx := ih A2 B2 ⟨g1.tr f1, g2.tr f2, hc, by rw [hst]; exact mb⟩
        rw [hst] at nx
        clear ih
        dsimp only at g4 ⊢
        cases hb : hdF F (ldV F i) with
        | none =>
          rw [hb] at nx
          rw [i3_add]
          exact ⟨fun _ => nx, fun c => absurd (ibc_0.mpr (by decide)) c⟩
        | some c =>
          rw [hb] at nx hw
          obtain ⟨d1, d2⟩ := ef c hb
          have wc : WC c := hw
          have sb := sumC_b wc
          have lp := lo_pos (u := sumC c) wc.2.1
          have v3 := wc.2.2.1
          have ul : u.natAbs ≤ 120000000000 ∧ (pos1 l).natAbs ≤ 30000000 := by
            rcases g4 with g | g
            · have e1 : u = -2 := congrArg Prod.fst g
              have e2 : l = -2 := congrArg Prod.snd g
              rw [e1, e2]; decide
            · rw [pos1_p (by omega)]; omega
          refine ⟨fun c0 => absurd (show (some c).isSome = true from rfl) (ibc_0.mp c0), fun _ => sp_more56 c wc d1 d2 u (pos1 l) ul.1 ul.2 rfl rfl ?_⟩
          rw [d1, d2, i3_add]
          unfold ldM at nx
          dsimp only at nx
          have key : (u * loy (sumC c) c.2.2.2 < lox (sumC c) c.2.2.2 * (pos1 l)) ↔ ¬ (0 < l ∧ lox (sumC c) c.2.2.2 * l ≤ u * loy (sumC c) c.2.2.2) := by
            rcases g4 with g | g
            · have e1 : u = -2 := congrArg Prod.fst g
              have e2 : l = -2 := congrArg Prod.snd g
              rw [e1, e2]
              constructor
              · intro _ z; omega
              · intro _; rw [show pos1 (-2) = 1 from rfl]; omega
            · rw [pos1_p g.1]
              constructor
              · intro z1 z2; omega
              · intro z1
                rcases Int.lt_or_le (u * loy (sumC c) c.2.2.2) (lox (sumC c) c.2.2.2 * l) with y | y
                · exact y
                · exact absurd ⟨g.1, y⟩ z1
          refine ⟨fun c1 => ?_, fun c1 => ?_⟩
          · rw [ibc_0, key, Classical.not_not] at c1
            rw [if_pos c1] at nx; exact nx
          · rw [ibc_0, Classical.not_not, key] at c1
            rw [if_neg c1, pos1_p lp.1] at nx; exact nx
    · rw [← ea]
      rintro A B ⟨g1, g2, g3, g4⟩
      have hh := hK A B g1 g2 g3
      generalize ldAll F = a at *
      obtain ⟨s, ⟨u, l⟩, sm⟩ := a
      dsimp only at g4 hh ⊢
      refine lp_145_10 _ _ _ _ A B ⟨fun _ => ?_, fun q => ?_⟩
      · have ub : -9223372036854775808 ≤ u ∧ u < 9223372036854775808 := by
          rcases g4 with g | g
          · have e1 : u = -2 := congrArg Prod.fst g
            omega
          · omega
        rw [ge_iff_le, i6_le (by omega) (by omega) (by omega) (by omega), i3_eq0 (by omega) (by omega)]
        rcases g4 with g | g
        · have e1 : u = -2 := congrArg Prod.fst g
          have e2 : l = -2 := congrArg Prod.snd g
          rw [e1, e2] at hh
          rw [e1]
          refine ⟨fun c => by omega, fun _ => ?_⟩
          rw [show (if ab = 0 then (-2 : Int) else -2) = -2 by split <;> rfl] at hh; exact hh
        · rw [pos1_p g.1]
          refine ⟨fun _ => ⟨fun c => ?_, fun c => ?_⟩, fun c => by omega⟩
          · rw [if_pos c] at hh; exact hh
          · rw [if_neg c] at hh; exact hh
      · rw [e12 A B g3, i3_le (by omega) (by omega) (by omega) (by omega)] at q; omega
  have alls : ∀ (ab : Int) (K : Int64 → gj_I → gj_J → Prop), ab = 0 ∨ ab = 1 → (∀ A B, FI LIk SI A → FJ LJsk SJ B → CNT F A B → K (i6 (efA (hdF F (ldAll F).2.2) (1 - ab) (-2))) A B) → DoL E 146 [(.ref 0), (.int (i3 ab))] SI SJ K := by
    intro ab K hab hK
    refine st_146 _ SI SJ ?_
    obtain ⟨-, -, p3⟩ := hC.1.2.2.2.2
    refine for_lp (f := ldS F) (n := n) (R := fun i (a : LdT) A B => A = SI ∧ B = SJ ∧ a.2.2.1.natAbs ≤ 999 * i ∧ a.2.2.2.1.natAbs ≤ 999 * i ∧ a.2.2.2.2.natAbs ≤ 999 * i) (G := fun i (a : LdT) A B => GoL E mt_146 11 [some (.ref 0), some (.int (i3 ab)), some (.long (i6 a.2.2.1)), none, some (.long (i6 a.2.2.2.1)), none, some (.long (i6 a.2.2.2.2)), none, some (.int (i3 (i : Nat)))] A B K) ?_ n 0 (0, (-2, -2), (0, 0, 0)) SI SJ (by omega) ⟨rfl, rfl, by decide, by decide, by decide⟩ ?_
    · rintro i ⟨s, ul, ⟨sx, sy, st⟩⟩ A B hi ⟨rfl, rfl, g1, g2, g3⟩ ih
      obtain ⟨-, y1, y2, y3⟩ := ldV_b hX (i := i) (by omega)
      have q1 := p3 (3 * i) (by omega)
      have q2 := p3 (3 * i + 1) (by omega)
      have q3 := p3 (3 * i + 2) (by omega)
      rw [show F (117 + 3 * i) = (ldV F i).1 from rfl] at q1
      rw [show F (117 + (3 * i + 1)) = (ldV F i).2.1 from rfl] at q2
      rw [show F (117 + (3 * i + 2)) = (ldV F i).2.2 from rfl] at q3
      have hst : (ldS F i (s, ul, (sx, sy, st))).2.2 = (sx + (ldV F i).1, sy + (ldV F i).2.1, st + (ldV F i).2.2) := rfl
      dsimp only at g1 g2 g3 ⊢
      refine lp_146_11 _ _ _ _ _ A B ⟨fun q => ?_, fun q => ?_⟩
      · rw [e12 A B hC, i3_le (by omega) (by omega) (by omega) (by omega)] at q; omega
      · simp only [i3_mul, i3_add]
        rw [i3_in (by omega) (by omega), i3_in (by omega) (by omega), i3_in (by omega) (by omega), i3_n (by omega) (by omega), i3_n (by omega) (by omega), i3_n (by omega) (by omega), show (3 * (i : Int)).toNat = 3 * i by omega, show (3 * (i : Int) + 1).toNat = 3 * i + 1 by omega, show (3 * (i : Int) + 2).toNat = 3 * i + 2 by omega, q1, q2, q3, i3_64 (by omega) (by omega), i3_64 (by omega) (by omega), i3_64 (by omega) (by omega)]
        simp only [i6_add]
        have := ih A B ⟨rfl, rfl, by rw [hst]; dsimp only; omega, by rw [hst]; dsimp only; omega, by rw [hst]; dsimp only; omega⟩
        rw [hst] at this
        exact ⟨by omega, by omega, by omega, this⟩
    · rw [← ea]
      rintro A B ⟨rfl, rfl, g1, g2, g3⟩
      generalize ldAll F = a at *
      obtain ⟨s, ul, ⟨sx, sy, st⟩⟩ := a
      dsimp only at g1 g2 g3 hK ⊢
      refine lp_146_11 _ _ _ _ _ A B ⟨fun _ => sp_seekF hC hF (sx, sy, st) (by unfold Rb; dsimp only; omega) rfl rfl rfl (fun A2 B2 f1 f2 hc _ _ ef => ?_), fun q => ?_⟩
      · have hh := hK A2 B2 f1 f2 hc
        rw [i3_eq0 (by omega) (by omega)]
        cases hb : hdF F (sx, sy, st) with
        | none =>
          rw [hb] at hh
          exact ⟨fun c => absurd (ibc_0.mpr (by decide)) c, fun _ => hh⟩
        | some c =>
          rw [hb] at hh
          obtain ⟨d1, d2⟩ := ef c hb
          rw [d1, d2]
          refine ⟨fun _ => ⟨fun c0 => ?_, fun c0 => ?_⟩, fun c0 => absurd (show (some c).isSome = true from rfl) (ibc_0.mp c0)⟩
          · have e2 : efA (some c) (1 - ab) (-2) = loy (sumC c) c.2.2.2 := if_neg (by omega)
            rw [e2] at hh; exact hh
          · have e2 : efA (some c) (1 - ab) (-2) = lox (sumC c) c.2.2.2 := if_pos (by omega)
            rw [e2] at hh; exact hh
      · rw [e12 A B hC, i3_le (by omega) (by omega) (by omega) (by omega)] at q; omega
  have cA : ∀ v, loadA F w = v → ∀ A B, FI LIk SI A → FJ LJsk SJ B → CNT F A B → Q (i6 v) A B := fun v e A B f1 f2 hc => by
    have := h A B (LIk_C f1) (LJsk_C f2) hc
    rw [e] at this; exact this
  clear h
  unfold loadA at cA
  refine st_142 _ SI SJ ?_
  rw [i3_eq (by omega) (by omega) (by omega) (by omega), i3_eq (by omega) (by omega) (by omega) (by omega), i3_eq (by omega) (by omega) (by omega) (by omega), i3_eq (by omega) (by omega) (by omega) (by omega), i3_eq (by omega) (by omega) (by omega) (by omega), i3_eq (by omega) (by omega) (by omega) (by omega), i3_t (by omega) (by omega), e12 SI SJ hC, i3_64 (by omega) (by omega)]
  refine ⟨fun q => ?_, fun q => ?_, fun q => ⟨fun z => absurd q z, fun _ => ?_⟩, fun q => ⟨fun _ => ?_, fun z => by omega⟩, fun q => ⟨fun z => absurd q z, fun _ => ?_⟩, fun q => ⟨fun _ => ?_, fun z => by omega⟩, fun q => ?_⟩
  · exact cA _ (by rw [q, ← hn]; rfl) SI SJ FI.rf FJ.rf hC
  · refine held _ (fun A B f1 f2 hc lt => ?_)
    rw [i3_64 (by omega) (by omega)]
    exact cA _ (by rw [q]; rfl) A B f1 f2 hc
  · exact great 1 _ (Or.inr rfl) (fun A B f1 f2 hc => cA _ (by rw [q]; rfl) A B f1 f2 hc)
  · exact great 0 _ (Or.inl rfl) (fun A B f1 f2 hc => cA _ (by rw [q]; rfl) A B f1 f2 hc)
  · exact alls 1 _ (Or.inr rfl) (fun A B f1 f2 hc => cA _ (by rw [q]; rfl) A B f1 f2 hc)
  · exact alls 0 _ (Or.inl rfl) (fun A B f1 f2 hc => cA _ (by rw [q]; rfl) A B f1 f2 hc)
  · exact cA _ (by rw [if_neg (by omega)]) SI SJ FI.rf FJ.rf hC
end LoadC
