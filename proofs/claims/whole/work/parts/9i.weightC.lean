/-! 9i: weight, tilt, storm of the class -/
section WeightC
variable {E : gj_E} {SI : gj_I} {SJ : gj_J} {F : Nat → Int}
theorem sp_more56g {Q : Int32 → gj_I → gj_J → Prop} {a b : Int64} (u v : Int) (hu : 0 ≤ u ∧ u ≤ 120000000000) (hv : 0 < v ∧ v ≤ 120000000000) (h0 : SJ 56 0 = i6 u) (h1 : SJ 56 1 = i6 v) (m : Int) (hm : 0 ≤ m ∧ m ≤ 10000) (ea : a = i6 m) (eb : b = i6 1) (h : Q (ibc (m * v < u)) SI SJ) : DoI E 15 [(.ref 56), (.long a), (.long b)] SI SJ Q := by
  subst ea; subst eb
  have m2 := mul_b (a := m) (b := v) (m := 10000) (n := 120000000000) (by omega) (by omega)
  refine st_15_56 _ _ SI SJ ?_
  rw [h0, h1, i6_mul, i6_mul, Int.mul_one, i6_le (by omega) (by omega) (by omega) (by omega)]
  refine ⟨fun z => ?_, fun z => ?_⟩
  · rw [ibc_f (fun q => by omega)] at h; exact h
  · rw [ibc_t (by omega)] at h; exact h
theorem lo_le {u w m : Int} (hw : 0 < w) : m * loy u w < lox u w ↔ ¬ u ≤ m * w := by
  obtain ⟨h1, h2, h3⟩ := lo_gcd (u := u) hw
  generalize lox u w = x at *
  generalize loy u w = y at *
  generalize ((Int.gcd u w : Nat) : Int) = g at *
  have e : m * w = (m * y) * g := by rw [← h3]; grind
  rw [e, ← h2]
  constructor
  · intro z q
    have := Int.mul_lt_mul_of_pos_right z h1
    omega
  · intro z
    rcases Int.lt_or_le (m * y) x with q | q
    · exact q
    · exact absurd (Int.mul_le_mul_of_nonneg_right q (Int.le_of_lt h1)) z
theorem sp_twiceArea4 {Q : Int32 → gj_I → gj_J → Prop} (hX : PX4 F SI) (hW : Wc F) (h : Q (i3 (ar F (nC F))) SI SJ) : DoI E 41 [(.ref 4)] SI SJ Q := by
  obtain ⟨n1, n2, n3⟩ := hW.n
  refine st_41_4 SI SJ ?_
  refine up_lp (α := Unit) (P := fun i _ A B => A = SI ∧ B = SJ) (G := fun i _ A B => GoI E mt_41 4 [some (.ref 4), some (.int (i3 (ar F i))), some (.int (i3 (i : Nat)))] A B Q) (nC F) ?_ ?_ 0 () SI SJ (by omega) ⟨rfl, rfl⟩
  · rintro _ A B ⟨rfl, rfl⟩
    refine lp_41_4_4 _ _ A B ⟨fun _ => h, fun c => ?_⟩
    rw [hX.1, n3, i3_le (by omega) (by omega) (by omega) (by omega)] at c; omega
  · rintro i _ A B hi ⟨rfl, rfl⟩ ih
    obtain ⟨y1, y2⟩ := hX.2 i hi
    obtain ⟨z0, z1, z2⟩ := hX.xn hW i
    refine lp_41_4_4 _ _ A B ⟨fun c => ?_, fun c => ⟨by rw [i3_in (by omega) (by omega)]; omega, sp_next4 hX.1 hW i hi rfl ⟨by rw [i3_in (by omega) (by omega)]; omega, sp_next4 hX.1 hW i hi rfl ⟨by rw [i3_in (by omega) (by omega)]; omega, ?_⟩⟩⟩⟩
    · rw [hX.1, n3, i3_le (by omega) (by omega) (by omega) (by omega)] at c; omega
    · rw [i3_n (by omega) (by omega), i3_n (by omega) (by omega), show ((i : Nat) : Int).toNat = i by omega, show ((nx F i : Nat) : Int).toNat = nx F i by omega, y1, y2, z1, z2]
      refine sp_turning _ _ _ _ rfl rfl rfl rfl ?_
      rw [i3_add, i3_add]
      have e : ar F i + (cx F i * cy F (i + 1) - cy F i * cx F (i + 1)) = ar F (i + 1) := by
        show _ = ar F i + cx F i * cy F (i + 1) - cx F (i + 1) * cy F i
        rw [Int.mul_comm (cy F i)]; omega
      rw [e]; exact ih () A B ⟨rfl, rfl⟩
theorem sp_mid5 {Q : Int64 → gj_I → gj_J → Prop} (hX : PX4 F SI) (hW : Wc F) (h : Q (i6 (mid F (nC F)).1) SI SJ) : GoL E mt_42 21 [some (.ref 4), none, some (.ref 5), some (.long (i6 0)), none, some (.int (i3 0)), none] SI SJ Q := by
  obtain ⟨n1, n2, n3⟩ := hW.n
  refine up_lp (α := Unit) (P := fun i _ A B => A = SI ∧ B = SJ) (G := fun i _ A B => GoL E mt_42 21 [some (.ref 4), none, some (.ref 5), some (.long (i6 (mid F i).1)), none, some (.int (i3 (i : Nat))), none] A B Q) (nC F) ?_ ?_ 0 () SI SJ (by omega) ⟨rfl, rfl⟩
  · rintro _ A B ⟨rfl, rfl⟩
    refine lp_42_21_4_5 _ _ A B ⟨fun _ => h, fun c => ?_⟩
    rw [hX.1, n3, i3_le (by omega) (by omega) (by omega) (by omega)] at c; omega
  · rintro i _ A B hi ⟨rfl, rfl⟩ ih
    obtain ⟨y1, y2⟩ := hX.2 i hi
    obtain ⟨z0, z1, z2⟩ := hX.xn hW i
    have b1 := hW.b i; have b2 := hW.b (i + 1)
    have pb := part_b hW i
    refine lp_42_21_4_5 _ _ A B ⟨fun c => ?_, fun c => sp_next4 hX.1 hW i hi rfl ⟨by rw [i3_in (by omega) (by omega)]; omega, by rw [i3_in (by omega) (by omega)]; omega, ?_⟩⟩
    · rw [hX.1, n3, i3_le (by omega) (by omega) (by omega) (by omega)] at c; omega
    · rw [i3_n (by omega) (by omega), i3_n (by omega) (by omega), show ((i : Nat) : Int).toNat = i by omega, show ((nx F i : Nat) : Int).toNat = nx F i by omega, y1, y2, z1, z2]
      refine sp_turning _ _ _ _ rfl rfl rfl rfl ?_
      rw [i3_add, i3_add, Int.mul_comm (cy F i), i3_64 (by omega) (by omega), i3_64 (by omega) (by omega), i6_mul, i6_add]
      have e : (mid F i).1 + (cx F i + cx F (i + 1)) * (cx F i * cy F (i + 1) - cx F (i + 1) * cy F i) = (mid F (i + 1)).1 := by
        rw [Int.mul_comm (cx F i + cx F (i + 1))]; rfl
      rw [e]; exact ih () A B ⟨rfl, rfl⟩
theorem sp_mid6 {Q : Int64 → gj_I → gj_J → Prop} (hX : PX4 F SI) (hW : Wc F) (h : Q (i6 (mid F (nC F)).2) SI SJ) : GoL E mt_42 21 [some (.ref 4), none, some (.ref 6), some (.long (i6 0)), none, some (.int (i3 0)), none] SI SJ Q := by
  obtain ⟨n1, n2, n3⟩ := hW.n
  refine up_lp (α := Unit) (P := fun i _ A B => A = SI ∧ B = SJ) (G := fun i _ A B => GoL E mt_42 21 [some (.ref 4), none, some (.ref 6), some (.long (i6 (mid F i).2)), none, some (.int (i3 (i : Nat))), none] A B Q) (nC F) ?_ ?_ 0 () SI SJ (by omega) ⟨rfl, rfl⟩
  · rintro _ A B ⟨rfl, rfl⟩
    refine lp_42_21_4_6 _ _ A B ⟨fun _ => h, fun c => ?_⟩
    rw [hX.1, n3, i3_le (by omega) (by omega) (by omega) (by omega)] at c; omega
  · rintro i _ A B hi ⟨rfl, rfl⟩ ih
    obtain ⟨y1, y2⟩ := hX.2 i hi
    obtain ⟨z0, z1, z2⟩ := hX.xn hW i
    have b1 := hW.b i; have b2 := hW.b (i + 1)
    have pb := part_b hW i
    refine lp_42_21_4_6 _ _ A B ⟨fun c => ?_, fun c => sp_next4 hX.1 hW i hi rfl ⟨by rw [i3_in (by omega) (by omega)]; omega, by rw [i3_in (by omega) (by omega)]; omega, ?_⟩⟩
    · rw [hX.1, n3, i3_le (by omega) (by omega) (by omega) (by omega)] at c; omega
    · rw [i3_n (by omega) (by omega), i3_n (by omega) (by omega), show ((i : Nat) : Int).toNat = i by omega, show ((nx F i : Nat) : Int).toNat = nx F i by omega, y1, y2, z1, z2]
      refine sp_turning _ _ _ _ rfl rfl rfl rfl ?_
      rw [i3_add, i3_add, Int.mul_comm (cy F i), i3_64 (by omega) (by omega), i3_64 (by omega) (by omega), i6_mul, i6_add]
      have e : (mid F i).2 + (cy F i + cy F (i + 1)) * (cx F i * cy F (i + 1) - cx F (i + 1) * cy F i) = (mid F (i + 1)).2 := by
        rw [Int.mul_comm (cy F i + cy F (i + 1))]; rfl
      rw [e]; exact ih () A B ⟨rfl, rfl⟩
/-- weight's effort lies there -/
def efW (b : Option Cd) (T : Int) (SJ : gj_J) : Prop := ∀ c, b = some c → SJ 56 0 = i6 (lox (lox (sumC c) c.2.2.2) (loy (sumC c) c.2.2.2 * T)) ∧ SJ 56 1 = i6 (loy (lox (sumC c) c.2.2.2) (loy (sumC c) c.2.2.2 * T))
theorem sp_bearsW {Q : Int32 → gj_I → gj_J → Prop} {a b : Int32} (hC : CNT F SI SJ) (hF : WF F) (hA : Wa F) (gx gy : Int) (hx : gx.natAbs ≤ 9) (hy : gy.natAbs ≤ 9) (ha : a = i3 gx) (hb : b = i3 gy) (h : ∀ SI' SJ', FI LIk SI SI' → FJ LJsk SJ SJ' → CNT F SI' SJ' → WB (hdF F (wtP F gx gy)) → efW (hdF F (wtP F gx gy)) (wtT F) SJ' → Q (ibc ((hdF F (wtP F gx gy)).isSome = true)) SI' SJ') : DoI E 148 [(.ref 0), (.int a), (.int b)] SI SJ Q := by
  subst ha; subst hb
  obtain ⟨hX, hD, hf, -, -⟩ := hC.1
  have hW := hF.1.1
  have wb := wtT_b hW
  have wp : 0 < wtT F := by unfold wtT; unfold Wa at hA; omega
  have ab := ar_b hW (nC F)
  have n8 := hW.n.2.1
  obtain ⟨-, -, -, -, t5, t6, t7, t8⟩ := hF.2.1
  refine st_148 _ _ SI SJ (sp_twiceArea4 hX hW ?_)
  refine st_42 _ SI SJ ⟨fun c => absurd c (by decide), fun _ => sp_mid5 hX hW ?_⟩
  refine st_42 _ SI SJ ⟨fun _ => sp_mid6 hX hW ?_, fun c => absurd rfl c⟩
  rw [hf.2.2.2.2.1, hf.2.2.2.2.2, i3_64 (by omega) (by omega), i3_64 (by omega) (by omega), i3_64 (by omega) (by omega), i3_64 (by omega) (by omega), i3_64 (by omega) (by omega)]
  simp only [i6_mul, i6_sub]
  have ew : 3 * ar F (nC F) = wtT F := rfl
  rw [ew]
  refine sp_seekF hC hF (wtP F gx gy) (wtP_b hW hF.2.1 hx hy) rfl rfl (i6_c ?_) (fun A B f1 f2 hc _ g2 ef => ?_)
  · show _ = ((mid F (nC F)).1 - F 32 * wtT F) * gy - ((mid F (nC F)).2 - F 33 * wtT F) * gx
    rw [Int.mul_comm (wtT F) (F 32), Int.mul_comm (wtT F) (F 33)]
  · cases hb : hdF F (wtP F gx gy) with
    | none =>
      rw [hb] at h
      have hh := h A B f1 f2 hc trivial (fun c hc => by cases hc)
      rw [ibc_no] at hh
      exact ⟨fun c => absurd (ibc_0.mpr (by decide)) c, fun _ => hh⟩
    | some c =>
      rw [hb] at h g2
      obtain ⟨d1, d2⟩ := ef c hb
      have wc : WC c := g2
      have sb := sumC_b wc
      have lp := lo_pos (u := sumC c) wc.2.1
      have v3 := wc.2.2.1
      have m1 := mul_b (a := loy (sumC c) c.2.2.2) (b := wtT F) (m := 30000000) (n := 3888) (by omega) (by omega)
      have m2 := Int.mul_pos lp.1 wp
      rw [d1, d2, i6_mul]
      refine ⟨fun _ => sp_become56 _ _ ⟨lp.2.2.2.1 sb.1, by omega⟩ ⟨m2, by omega⟩ rfl rfl ?_, fun c0 => absurd (show (some c).isSome = true from rfl) (ibc_0.mp c0)⟩
      have f3 : FJ LJsk B (gj_w2 (gj_w2 B 56 0 (i6 (lox (lox (sumC c) c.2.2.2) (loy (sumC c) c.2.2.2 * wtT F)))) 56 1 (i6 (loy (lox (sumC c) c.2.2.2) (loy (sumC c) c.2.2.2 * wtT F)))) := (FJ.rf.w (by unfold LJsk; omega)).w (by unfold LJsk; omega)
      have hh := h A _ f1 (f2.tr f3) (hc.k FI.rf f3) wc (fun c' hc' => by cases hc'; exact ⟨by rw [w2_n (by omega), w2_s], by rw [w2_s]⟩)
      rw [ibc_sm] at hh; exact hh
theorem sp_weightC {Q : Int64 → gj_I → gj_J → Prop} {a1 a2 a3 : Int32} (hC : CNT F SI SJ) (hF : WF F) (hA : Wa F) (x y w : Int) (xr : -2147483648 ≤ x ∧ x < 2147483648) (yr : -2147483648 ≤ y ∧ y < 2147483648) (wr : -2147483648 ≤ w ∧ w < 2147483648) (e1 : a1 = i3 x) (e2 : a2 = i3 y) (e3 : a3 = i3 w) (h : ∀ SI' SJ', FI LCI SI SI' → FJ LCJ SJ SJ' → CNT F SI' SJ' → Q (i6 (weightA F x y w)) SI' SJ') : DoL E 147 [(.ref 0), (.int a1), (.int a2), (.int a3)] SI SJ Q := by
  subst e1; subst e2; subst e3
  have bad : ¬ isG x y w → Q (i6 (-9000000000000000000)) SI SJ := by
    intro z
    have e : weightA F x y w = -9000000000000000000 := ic_f z
    rw [e] at h; exact h SI SJ FI.rf FJ.rf hC
  refine st_147 _ _ _ SI SJ ?_
  have k1 : -2147483648 ≤ (if x < y then y else x) ∧ (if x < y then y else x) < 2147483648 := by split <;> omega
  have k2 : -2147483648 ≤ (if y < x then y else x) ∧ (if y < x then y else x) < 2147483648 := by split <;> omega
  rw [i3_ifmax (by omega) (by omega) (by omega) (by omega), i3_ifmin (by omega) (by omega) (by omega) (by omega), i3_lt (by omega) (by omega) k1.1 k1.2, i3_lt k2.1 k2.2 (by omega) (by omega), i3_lt0 (by omega) (by omega), i3_le (by omega) (by omega) (by omega) (by omega)]
  have q1 : 9 < (if x < y then y else x) ↔ (9 < x ∨ 9 < y) := by
    constructor
    · intro z; split at z <;> omega
    · intro z; split <;> omega
  have q2 : (if y < x then y else x) < -9 ↔ (x < -9 ∨ y < -9) := by
    constructor
    · intro z; split at z <;> omega
    · intro z; split <;> omega
  rw [q1, q2]
  unfold isG at bad
  refine ⟨fun c => bad (by omega), fun c => ⟨fun d => bad (by omega), fun d => ⟨fun g => bad (by omega), fun g => ⟨fun t => ?_, fun t => bad (by omega)⟩⟩⟩⟩
  refine sp_bearsW hC hF hA x y (by omega) (by omega) rfl rfl (fun A B f1 f2 hc _ ef => ?_)
  have hh := h A B (LIk_C f1) (LJsk_C f2) hc
  have e : weightA F x y w = wtA (hdF F (wtP F x y)) (wtT F) w := ic_t ⟨by omega, by omega, by omega⟩
  rw [e] at hh
  rw [i3_eq0 (by omega) (by omega)]
  cases hb : hdF F (wtP F x y) with
  | none =>
    rw [hb] at hh
    exact ⟨fun c => absurd (ibc_0.mpr (by decide)) c, fun _ => hh⟩
  | some c =>
    rw [hb] at hh
    obtain ⟨d1, d2⟩ := ef c hb
    rw [d1, d2]
    unfold wtA at hh
    dsimp only at hh
    refine ⟨fun _ => ⟨fun c0 => ?_, fun c0 => ?_⟩, fun c0 => absurd (show (some c).isSome = true from rfl) (ibc_0.mp c0)⟩
    · rw [if_neg c0] at hh; exact hh
    · rw [if_pos c0] at hh; exact hh
/-- the tables of the class -/
def Tbl (E : gj_E) : Prop := ∀ k, k < 8 → gj_stf E 2 k = i3 (tX k) ∧ gj_stf E 3 k = i3 (tY k)
theorem sp_tiltC {Q : Int32 → gj_I → gj_J → Prop} {a1 : Int32} (hE : Tbl E) (hC : CNT F SI SJ) (hF : WF F) (hA : Wa F) (m : Int) (mr : -2147483648 ≤ m ∧ m < 2147483648) (e1 : a1 = i3 m) (h : ∀ SI' SJ', FI LCI SI SI' → FJ LCJ SJ SJ' → CNT F SI' SJ' → Q (i3 (tiltA F m)) SI' SJ') : DoI E 149 [(.ref 0), (.int a1)] SI SJ Q := by
  subst e1
  have bad : ¬ (0 ≤ m ∧ m ≤ 10000) → Q (i3 (-1)) SI SJ := by
    intro z
    have e : tiltA F m = -1 := if_neg z
    rw [e] at h; exact h SI SJ FI.rf FJ.rf hC
  have wb := wtT_b hF.1.1
  have wp : 0 < wtT F := by unfold wtT; unfold Wa at hA; omega
  refine st_149 _ SI SJ ?_
  rw [i3_lt0 (by omega) (by omega), i3_le (by omega) (by omega) (by omega) (by omega)]
  refine ⟨fun c => bad (by omega), fun c => ⟨fun d => ?_, fun d => bad (by omega)⟩⟩
  have e : tiltA F m = (tiS F m 8 : Int) := if_pos ⟨by omega, d⟩
  rw [e] at h
  refine up_lp (α := Unit) (P := fun i _ A B => FI LIk SI A ∧ FJ LJsk SJ B ∧ CNT F A B) (G := fun i _ A B => GoI E mt_149 17 [some (.ref 0), some (.int (i3 m)), some (.int (i3 (tiS F m i : Nat))), some (.int (i3 (i : Nat)))] A B Q) 8 ?_ ?_ 0 () SI SJ (by omega) ⟨FI.rf, FJ.rf, hC⟩
  · rintro _ A B ⟨g1, g2, g3⟩
    exact lp_149_17 _ _ _ A B ⟨fun _ => h A B (LIk_C g1) (LJsk_C g2) g3, fun c => absurd (by decide) c⟩
  · rintro i _ A B hi ⟨g1, g2, g3⟩ ih
    have tx : (tX i).natAbs ≤ 9 := by unfold tX; repeat' split
                                      all_goals decide
    have ty : (tY i).natAbs ≤ 9 := by unfold tY; repeat' split
                                      all_goals decide
    have nle : ¬ i3 8 ≤ i3 (i : Int) := by rw [i3_le (by omega) (by omega) (by omega) (by omega)]; omega
    refine lp_149_17 _ _ _ A B ⟨fun z => absurd z nle, fun _ => ⟨fun z => absurd z nle, fun _ => ⟨by rw [i3_in (by omega) (by omega)]; omega, ?_⟩⟩⟩
    rw [i3_n (by omega) (by omega), show ((i : Nat) : Int).toNat = i by omega, (hE i hi).1, (hE i hi).2]
    refine sp_bearsW g3 hF hA (tX i) (tY i) tx ty rfl rfl (fun A2 B2 f1 f2 hc g4 ef => ?_)
    have nx : ∀ v : Nat, tiS F m (i + 1) = v → ∀ A3 B3, FI LIk A2 A3 → B3 = B2 → CNT F A3 B3 → GoI E mt_149 17 [some (.ref 0), some (.int (i3 m)), some (.int (i3 (v : Nat))), some (.int (i3 ((i : Int) + 1)))] A3 B3 Q := by
      intro v hv A3 B3 k1 k2 k3
      subst hv; subst k2
      exact ih () A3 B3 ⟨(g1.tr f1).tr k1, g2.tr f2, k3⟩
    rw [i3_add, i3_64 (by omega) (by omega)]
    cases hb : hdF F (wtP F (tX i) (tY i)) with
    | none => exact ⟨fun _ => nx _ (ic_f (by rw [hb]; exact fun z => z)) A2 B2 FI.rf rfl hc, fun c => absurd (ibc_0.mpr (by decide)) c⟩
    | some c =>
      rw [hb] at g4
      obtain ⟨d1, d2⟩ := ef c hb
      have wc : WC c := g4
      have sb := sumC_b wc
      have lp := lo_pos (u := sumC c) wc.2.1
      have v3 := wc.2.2.1
      have m1 := mul_b (a := loy (sumC c) c.2.2.2) (b := wtT F) (m := 30000000) (n := 3888) (by omega) (by omega)
      have m2 := Int.mul_pos lp.1 wp
      have lq := lo_pos (u := lox (sumC c) c.2.2.2) m2
      refine ⟨fun c0 => absurd (show (some c).isSome = true from rfl) (ibc_0.mp c0), fun _ => sp_more56g _ _ ⟨lq.2.2.2.1 (lp.2.2.2.1 sb.1), by omega⟩ ⟨lq.1, by omega⟩ d1 d2 m ⟨by omega, d⟩ rfl rfl ?_⟩
      rw [i3_shl (by omega), i3_or]
      have ew : wiB (hdF F (wtP F (tX i) (tY i))) (m * wtT F) ↔ lox (sumC c) c.2.2.2 ≤ m * (loy (sumC c) c.2.2.2 * wtT F) := by
        rw [hb]
        show lox (sumC c) c.2.2.2 ≤ m * wtT F * loy (sumC c) c.2.2.2 ↔ _
        rw [show m * wtT F * loy (sumC c) c.2.2.2 = m * (loy (sumC c) c.2.2.2 * wtT F) by grind]
      refine ⟨fun q => nx _ (ic_f (fun y => ?_)) A2 B2 FI.rf rfl hc, fun q => nx _ (ic_t ?_) A2 B2 FI.rf rfl hc⟩
      · rw [ibc_0, Classical.not_not, lo_le m2] at q
        exact q (ew.mp y)
      · rw [ibc_0, lo_le m2, Classical.not_not] at q
        exact ew.mpr q
theorem sp_nextN {Q : Int32 → gj_I → gj_J → Prop} {a : Int32} (s : Int) (hs : 0 ≤ s ∧ s ≤ 65535) (ha : a = i3 s) (h : Q (i3 (nxS s)) SI SJ) : DoI E 151 [(.int a)] SI SJ Q := by
  subst ha
  refine st_151 _ SI SJ ?_
  obtain ⟨x, hx⟩ : ∃ x : Nat, 25173 * s + 13849 = x := ⟨(25173 * s + 13849).toNat, by omega⟩
  rw [i3_mul, i3_add, hx, show i3 65535 = i3 ((65535 : Nat) : Int) from rfl, i3_and]
  have e : x &&& 65535 = x % 65536 := Nat.and_two_pow_sub_one_eq_mod x 16
  have e2 : nxS s = ((x % 65536 : Nat) : Int) := by unfold nxS; rw [hx]; omega
  rw [e, ← e2]; exact h
theorem sp_stormC {Q : Int32 → gj_I → gj_J → Prop} {a1 a2 : Int32} (hC : CNT F SI SJ) (hF : WF F) (n m : Int) (nr : -2147483648 ≤ n ∧ n < 2147483648) (mr : -2147483648 ≤ m ∧ m < 2147483648) (e1 : a1 = i3 n) (e2 : a2 = i3 m) (h : ∀ SI' SJ', FI LCI SI SI' → FJ LCJ SJ SJ' → CNT F SI' SJ' → Q (i3 (stormA F n m)) SI' SJ') : DoI E 150 [(.ref 0), (.int a1), (.int a2)] SI SJ Q := by
  subst e1; subst e2
  have h34 : 0 ≤ F 34 ∧ F 34 ≤ 65535 := ⟨hF.2.2.2.2.2.1, hF.2.2.2.2.2.2.1⟩
  have bad : ¬ ((1 ≤ n ∧ n ≤ 60) ∧ 0 ≤ m ∧ m ≤ 10000) → Q (i3 (-1)) SI SJ := by
    intro z
    have e : stormA F n m = -1 := if_neg z
    rw [e] at h; exact h SI SJ FI.rf FJ.rf hC
  refine st_150 _ _ SI SJ ?_
  rw [i3_lt (by omega) (by omega) (by omega) (by omega), i3_lt (by omega) (by omega) (by omega) (by omega), i3_lt0 (by omega) (by omega), i3_le (by omega) (by omega) (by omega) (by omega)]
  refine ⟨fun c => bad (by omega), fun c => ⟨fun d => bad (by omega), fun d => ⟨fun g => bad (by omega), fun g => ⟨fun t => ?_, fun t => bad (by omega)⟩⟩⟩⟩
  have e : stormA F n m = (forN (stS F m) 0 n.toNat (F 34, 0)).2 := if_pos ⟨by omega, by omega⟩
  rw [e] at h
  obtain ⟨k, hk⟩ : ∃ k : Nat, n = k := ⟨n.toNat, by omega⟩
  subst hk
  rw [show ((k : Nat) : Int).toNat = k by omega] at h
  rw [hC.1.2.2.2.2.1]
  refine for_lp (f := stS F m) (n := k) (R := fun i a A B => FI LIk SI A ∧ FJ LJsk SJ B ∧ CNT F A B ∧ (0 ≤ a.1 ∧ a.1 ≤ 65535) ∧ 0 ≤ a.2 ∧ a.2 ≤ i) (G := fun i a A B => GoI E mt_150 38 [some (.ref 0), some (.int (i3 k)), some (.int (i3 m)), some (.int (i3 a.2)), some (.int (i3 a.1)), some (.int (i3 (i : Nat))), none, none, none] A B Q) ?_ k 0 (F 34, 0) SI SJ (by omega) ⟨FI.rf, FJ.rf, hC, h34, Int.le_refl 0, Int.le_refl 0⟩ ?_
  · rintro i ⟨s, cnt⟩ A B hi ⟨g1, g2, g3, g5, g6⟩ ih
    dsimp only at g5 g6 ih ⊢
    refine lp_150_38 _ _ _ _ _ A B ⟨fun q => ?_, fun q => ?_⟩
    · rw [i3_le (by omega) (by omega) (by omega) (by omega)] at q; omega
    · have b1 := nxS_b s; have b2 := nxS_b (nxS s); have b3 := nxS_b (nxS (nxS s))
      refine sp_nextN s g5 rfl (sp_nextN (nxS s) b1 rfl (sp_nextN (nxS (nxS s)) b2 rfl ?_))
      have hst : stS F m i (s, cnt) = (nxS (nxS (nxS s)), ic (wiB (hdF F (nxS s % 21 - 10, nxS (nxS s) % 21 - 10, nxS (nxS (nxS s)) % 101 - 50)) m) (cnt + 1) cnt) := rfl
      rw [hst] at ih
      generalize nxS (nxS (nxS s)) = s3 at *
      generalize nxS (nxS s) = s2 at *
      generalize nxS s = s1 at *
      have rm : ∀ (x : Int) (d : Nat), 0 ≤ x ∧ x ≤ 65535 → 0 < d → d < 1000 → i3 x - i3 x / i3 d * i3 d = i3 (x % d) := by
        intro x d hx hd hd2
        obtain ⟨y, hy⟩ : ∃ y : Nat, x = y := ⟨x.toNat, by omega⟩
        subst hy
        rw [i3_remN (a := y) (b := d) (by omega) hd (by omega), Int.natCast_emod]
      rw [show i3 21 = i3 ((21 : Nat) : Int) from rfl, show i3 101 = i3 ((101 : Nat) : Int) from rfl, rm s1 21 b1 (by decide) (by decide), rm s2 21 b2 (by decide) (by decide), rm s3 101 b3 (by decide) (by decide), i3_sub, i3_sub, i3_sub, i3_add]
      refine sp_seekF g3 hF (s1 % 21 - 10, s2 % 21 - 10, s3 % 101 - 50) (by unfold Rb; dsimp only; omega) (i3_64 (by omega) (by omega)) (i3_64 (by omega) (by omega)) (i3_64 (by omega) (by omega)) (fun A2 B2 f1 f2 hc g4 g7 ef => ?_)
      have nx : ∀ v : Int, ic (wiB (hdF F (s1 % 21 - 10, s2 % 21 - 10, s3 % 101 - 50)) m) (cnt + 1) cnt = v → (v = cnt + 1 ∨ v = cnt) → GoI E mt_150 38 [some (.ref 0), some (.int (i3 k)), some (.int (i3 m)), some (.int (i3 v)), some (.int (i3 s3)), some (.int (i3 ((i : Int) + 1))), none, none, none] A2 B2 Q := by
        intro v hv hv2
        subst hv
        exact ih A2 B2 ⟨g1.tr f1, g2.tr f2, hc, b3, by dsimp only; omega, by dsimp only; omega⟩
      cases hb : hdF F (s1 % 21 - 10, s2 % 21 - 10, s3 % 101 - 50) with
      | none => exact ⟨fun _ => nx _ (ic_f (by rw [hb]; exact fun z => z)) (Or.inr rfl), fun c0 => absurd (ibc_0.mpr (by decide)) c0⟩
      | some c =>
        rw [hb] at g7
        obtain ⟨d1, d2⟩ := ef c hb
        have wc : WC c := g7
        have sb := sumC_b wc
        have lp := lo_pos (u := sumC c) wc.2.1
        have v3 := wc.2.2.1
        refine ⟨fun c0 => absurd (show (some c).isSome = true from rfl) (ibc_0.mp c0), fun _ => sp_more56g _ _ ⟨lp.2.2.2.1 sb.1, by omega⟩ ⟨lp.1, by omega⟩ d1 d2 m ⟨by omega, t⟩ (i3_64 (by omega) (by omega)) rfl ⟨fun c0 => ?_, fun c0 => ?_⟩⟩
        · rw [ibc_0, Classical.not_not] at c0
          exact nx _ (ic_f (by rw [hb]; intro z; unfold wiB at z; dsimp only at z; omega)) (Or.inr rfl)
        · rw [ibc_0] at c0
          rw [i3_add]
          exact nx _ (ic_t (by rw [hb]; unfold wiB; dsimp only; omega)) (Or.inl rfl)
  · rintro A B ⟨g1, g2, g3, g5, g6⟩
    refine lp_150_38 _ _ _ _ _ A B ⟨fun _ => h A B (LIk_C g1) (LJsk_C g2) g3, fun q => ?_⟩
    rw [i3_le (by omega) (by omega) (by omega) (by omega)] at q; omega
end WeightC
