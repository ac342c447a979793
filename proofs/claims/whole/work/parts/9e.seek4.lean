/-! 9e: the class's hold: seek -/
theorem lo_pr {S L s l : Int} (hL : 0 < L) (hl : 0 < l) (h : S * l = s * L) : lox S L = lox s l ∧ loy S L = loy s l := by
  have a := lo_mul (u := S) (v := L) hl
  have b := lo_mul (u := s) (v := l) hL
  have e1 : l * S = L * s := by rw [Int.mul_comm l S, h, Int.mul_comm]
  have e2 : l * L = L * l := Int.mul_comm _ _
  rw [e1, e2] at a
  exact ⟨a.1.symm.trans b.1, a.2.symm.trans b.2⟩
theorem sp_become53 {E : gj_E} {SI : gj_I} {SJ : gj_J} {Q : gj_I → gj_J → Prop} {x y : Int64} (a b : Int) (ha : 0 ≤ a ∧ a < 9000000000000000000) (hb : 0 < b ∧ b < 9000000000000000000) (ex : x = i6 a) (ey : y = i6 b) (h : Q SI (gj_w2 (gj_w2 SJ 53 0 (i6 (lox a b))) 53 1 (i6 (loy a b)))) : DoV E 14 [(.ref 53), (.long x), (.long y)] SI SJ Q := by
  subst ex; subst ey
  have lg := lo_gcd (u := a) hb.1
  have gl := Int.gcd_le_right (a := a) (b := b) hb.1
  refine st_14_53 _ _ SI SJ (sp_divisor (by omega) (by omega) (by omega) (by omega) ?_)
  rw [i6_le (by omega) (by omega) (by omega) (by omega), i6_eq0 (by omega) (by omega), i6_div (by omega) (by omega) (by omega) (by omega), i6_div (by omega) (by omega) (by omega) (by omega)]
  refine ⟨fun c => ⟨fun _ => ?_, fun c2 => absurd c c2⟩, fun c => ⟨by omega, fun c2 => absurd c2 c, fun _ => h⟩⟩
  have g1 : Int.gcd a b = 1 := by omega
  rw [(lo_1 g1).1, (lo_1 g1).2] at h; exact h
theorem sp_become56 {E : gj_E} {SI : gj_I} {SJ : gj_J} {Q : gj_I → gj_J → Prop} {x y : Int64} (a b : Int) (ha : 0 ≤ a ∧ a < 9000000000000000000) (hb : 0 < b ∧ b < 9000000000000000000) (ex : x = i6 a) (ey : y = i6 b) (h : Q SI (gj_w2 (gj_w2 SJ 56 0 (i6 (lox a b))) 56 1 (i6 (loy a b)))) : DoV E 14 [(.ref 56), (.long x), (.long y)] SI SJ Q := by
  subst ex; subst ey
  have lg := lo_gcd (u := a) hb.1
  have gl := Int.gcd_le_right (a := a) (b := b) hb.1
  refine st_14_56 _ _ SI SJ (sp_divisor (by omega) (by omega) (by omega) (by omega) ?_)
  rw [i6_le (by omega) (by omega) (by omega) (by omega), i6_eq0 (by omega) (by omega), i6_div (by omega) (by omega) (by omega) (by omega), i6_div (by omega) (by omega) (by omega) (by omega)]
  refine ⟨fun c => ⟨fun _ => ?_, fun c2 => absurd c c2⟩, fun c => ⟨by omega, fun c2 => absurd c2 c, fun _ => h⟩⟩
  have g1 : Int.gcd a b = 1 := by omega
  rw [(lo_1 g1).1, (lo_1 g1).2] at h; exact h
theorem sp_become57 {E : gj_E} {SI : gj_I} {SJ : gj_J} {Q : gj_I → gj_J → Prop} {x y : Int64} (a b : Int) (ha : 0 ≤ a ∧ a < 9000000000000000000) (hb : 0 < b ∧ b < 9000000000000000000) (ex : x = i6 a) (ey : y = i6 b) (h : Q SI (gj_w2 (gj_w2 SJ 57 0 (i6 (lox a b))) 57 1 (i6 (loy a b)))) : DoV E 14 [(.ref 57), (.long x), (.long y)] SI SJ Q := by
  subst ex; subst ey
  have lg := lo_gcd (u := a) hb.1
  have gl := Int.gcd_le_right (a := a) (b := b) hb.1
  refine st_14_57 _ _ SI SJ (sp_divisor (by omega) (by omega) (by omega) (by omega) ?_)
  rw [i6_le (by omega) (by omega) (by omega) (by omega), i6_eq0 (by omega) (by omega), i6_div (by omega) (by omega) (by omega) (by omega), i6_div (by omega) (by omega) (by omega) (by omega)]
  refine ⟨fun c => ⟨fun _ => ?_, fun c2 => absurd c c2⟩, fun c => ⟨by omega, fun c2 => absurd c2 c, fun _ => h⟩⟩
  have g1 : Int.gcd a b = 1 := by omega
  rw [(lo_1 g1).1, (lo_1 g1).2] at h; exact h
theorem sp_become77 {E : gj_E} {SI : gj_I} {SJ : gj_J} {Q : gj_I → gj_J → Prop} {x y : Int64} (a b : Int) (ha : 0 ≤ a ∧ a < 9000000000000000000) (hb : 0 < b ∧ b < 9000000000000000000) (ex : x = i6 a) (ey : y = i6 b) (h : Q SI (gj_w2 (gj_w2 SJ 77 0 (i6 (lox a b))) 77 1 (i6 (loy a b)))) : DoV E 14 [(.ref 77), (.long x), (.long y)] SI SJ Q := by
  subst ex; subst ey
  have lg := lo_gcd (u := a) hb.1
  have gl := Int.gcd_le_right (a := a) (b := b) hb.1
  refine st_14_77 _ _ SI SJ (sp_divisor (by omega) (by omega) (by omega) (by omega) ?_)
  rw [i6_le (by omega) (by omega) (by omega) (by omega), i6_eq0 (by omega) (by omega), i6_div (by omega) (by omega) (by omega) (by omega), i6_div (by omega) (by omega) (by omega) (by omega)]
  refine ⟨fun c => ⟨fun _ => ?_, fun c2 => absurd c c2⟩, fun c => ⟨by omega, fun c2 => absurd c2 c, fun _ => h⟩⟩
  have g1 : Int.gcd a b = 1 := by omega
  rw [(lo_1 g1).1, (lo_1 g1).2] at h; exact h
theorem sp_become79 {E : gj_E} {SI : gj_I} {SJ : gj_J} {Q : gj_I → gj_J → Prop} {x y : Int64} (a b : Int) (ha : 0 ≤ a ∧ a < 9000000000000000000) (hb : 0 < b ∧ b < 9000000000000000000) (ex : x = i6 a) (ey : y = i6 b) (h : Q SI (gj_w2 (gj_w2 SJ 79 0 (i6 (lox a b))) 79 1 (i6 (loy a b)))) : DoV E 14 [(.ref 79), (.long x), (.long y)] SI SJ Q := by
  subst ex; subst ey
  have lg := lo_gcd (u := a) hb.1
  have gl := Int.gcd_le_right (a := a) (b := b) hb.1
  refine st_14_79 _ _ SI SJ (sp_divisor (by omega) (by omega) (by omega) (by omega) ?_)
  rw [i6_le (by omega) (by omega) (by omega) (by omega), i6_eq0 (by omega) (by omega), i6_div (by omega) (by omega) (by omega) (by omega), i6_div (by omega) (by omega) (by omega) (by omega)]
  refine ⟨fun c => ⟨fun _ => ?_, fun c2 => absurd c c2⟩, fun c => ⟨by omega, fun c2 => absurd c2 c, fun _ => h⟩⟩
  have g1 : Int.gcd a b = 1 := by omega
  rw [(lo_1 g1).1, (lo_1 g1).2] at h; exact h
theorem sp_become80 {E : gj_E} {SI : gj_I} {SJ : gj_J} {Q : gj_I → gj_J → Prop} {x y : Int64} (a b : Int) (ha : 0 ≤ a ∧ a < 9000000000000000000) (hb : 0 < b ∧ b < 9000000000000000000) (ex : x = i6 a) (ey : y = i6 b) (h : Q SI (gj_w2 (gj_w2 SJ 80 0 (i6 (lox a b))) 80 1 (i6 (loy a b)))) : DoV E 14 [(.ref 80), (.long x), (.long y)] SI SJ Q := by
  subst ex; subst ey
  have lg := lo_gcd (u := a) hb.1
  have gl := Int.gcd_le_right (a := a) (b := b) hb.1
  refine st_14_80 _ _ SI SJ (sp_divisor (by omega) (by omega) (by omega) (by omega) ?_)
  rw [i6_le (by omega) (by omega) (by omega) (by omega), i6_eq0 (by omega) (by omega), i6_div (by omega) (by omega) (by omega) (by omega), i6_div (by omega) (by omega) (by omega) (by omega)]
  refine ⟨fun c => ⟨fun _ => ?_, fun c2 => absurd c c2⟩, fun c => ⟨by omega, fun c2 => absurd c2 c, fun _ => h⟩⟩
  have g1 : Int.gcd a b = 1 := by omega
  rw [(lo_1 g1).1, (lo_1 g1).2] at h; exact h
section Seek4
variable {E : gj_E} {SI : gj_I} {SJ : gj_J} {W : Nat → V3} {O : Nat → Int} {n : Nat} {r : V3}
theorem MK.f {S : Nat → Nat → Prop} {B : gj_J} {L : Nat → Nat → Prop} (h : MK S W n r SJ) (g : FJ L SJ B) (hl : ∀ k, ¬ L 60 k) : MK S W n r B := fun i j h1 h2 h3 => by rw [g 60 _ (hl _)]; exact h i j h1 h2 h3
theorem sp_seekTwos {Q : gj_I → gj_J → Prop} (hL : LB42 W O n SI SJ) (hC : PB42 W n SI SJ) (hn : n ≤ 14) (hB : Wb W n) (hr : Rb r) (hV : RV r SJ) (b0 : Option Cd) (hb : RH b0 SI SJ) (hwb : WB b0) (h : ∀ SI' SJ', FI LIk SI SI' → FJ LJk SJ SJ' → MK (fun _ _ => True) W n r SJ' → RH (forN (fun i b => forN (hA2 W r i) (i + 1) (n - (i + 1)) b) 0 n b0) SI' SJ' → WB (forN (fun i b => forN (hA2 W r i) (i + 1) (n - (i + 1)) b) 0 n b0) → Q SI' SJ') : DoV E 18 [(.ref 55), (.ref 42)] SI SJ Q := by
  refine st_18 SI SJ ?_
  let HR : Nat → Nat → Option Cd → gj_I → gj_J → Prop := fun i j b A B => FI LIk SI A ∧ FJ LJk SJ B ∧ MK (seenP i j) W n r B ∧ RH b A B ∧ WB b
  have inner : ∀ (i : Nat) (b : Option Cd) (A : gj_I) (B : gj_J), i < n → HR i (i + 1) b A B → (∀ A' B', HR (i + 1) 0 (forN (hA2 W r i) (i + 1) (n - (i + 1)) b) A' B' → GoV E mt_18 2 [some (.ref 55), some (.ref 42), some (.int (i3 ((i + 1 : Nat) : Int))), none, none] A' B' Q) → GoV E mt_18 14 [some (.ref 55), some (.ref 42), some (.int (i3 (i : Nat))), some (.int (i3 ((i + 1 : Nat) : Int))), none] A B Q := by
    intro i b A B hi hH hc
    refine for_lp (f := hA2 W r i) (n := n) (R := fun j b A B => HR i j b A B ∧ i < j) (G := fun j _ A B => GoV E mt_18 14 [some (.ref 55), some (.ref 42), some (.int (i3 (i : Nat))), some (.int (i3 (j : Nat))), none] A B Q) ?_ (n - (i + 1)) (i + 1) b A B (by omega) ⟨hH, by omega⟩ ?_
    · rintro j b A B hj ⟨⟨g1, g2, g3, g4, g5⟩, hij⟩ ih
      have hLA := hL.k g1 g2
      have hCA := PB42.k hC g1 g2
      have hVA := hV.k g2
      have cb := cpl_b hij (show j < 14 by omega)
      obtain ⟨q1, q2, q3, -, -⟩ := hCA i j hij hj trivial
      obtain ⟨v1, v2, v3⟩ := hVA
      have pb := crs_b hB hi hj
      have db := dot_r pb hr
      have ed : r.1 * (crs (W i) (W j)).1 + r.2.1 * (crs (W i) (W j)).2.1 + r.2.2 * (crs (W i) (W j)).2.2 = dot r (crs (W i) (W j)) := rfl
      rw [dot_com] at db
      have hst : hA2 W r i j b = ic (ok2 W r i j) (stepB b (cd2 W r i j)) b := rfl
      have f60 : FJ (fun o _ => o = 60) B (gj_w2 B 60 (cpl i j) (i6 (dot r (crs (W i) (W j))))) := FJ.rf.w rfl
      have mk : MK (seenP i (j + 1)) W n r (gj_w2 B 60 (cpl i j) (i6 (dot r (crs (W i) (W j))))) := by
        intro a c h1 h2 h3
        by_cases e : a = i ∧ c = j
        · rw [e.1, e.2, w2_s]
        · rw [w2_n (fun z => e (cpl_un h1 hij z.2))]
          exact g3 a c h1 h2 (by unfold seenP at h3 ⊢; omega)
      have fJ : FJ LJk SJ (gj_w2 B 60 (cpl i j) (i6 (dot r (crs (W i) (W j))))) := g2.w (by unfold LJk; omega)
      have skip : ¬ ok2 W r i j → GoV E mt_18 14 [some (.ref 55), some (.ref 42), some (.int (i3 (i : Nat))), some (.int (i3 ((j : Int) + 1))), none] A (gj_w2 B 60 (cpl i j) (i6 (dot r (crs (W i) (W j))))) Q := by
        intro q
        rw [hst, ic_f q] at ih
        exact ih A _ ⟨⟨g1, fJ, mk, g4.m f60, g5⟩, by omega⟩
      refine lp_18_14 _ _ A B ⟨fun q => ?_, fun q => sp_couple i j (by omega) rfl rfl ?_⟩
      · rw [hLA.1, i3_le (by omega) (by omega) (by omega) (by omega)] at q; omega
      · rw [i3_in (by omega) (by omega), i3_n (by omega) (by omega), show ((cpl i j : Nat) : Int).toNat = cpl i j by omega, q1, q2, q3, v1, v2, v3]
        simp only [i6_mul, i6_add]
        rw [ed, w2_s, i6_eq (by omega) (by omega) (by omega) (by omega), i3_add]
        refine ⟨by omega, fun c => skip (fun z => c (by rw [dot_com]; exact z.2.1)), fun c => ?_⟩
        refine sp_isPlane42 pb (cpl i j) cb (by rw [w2_n (by omega)]; exact q1) (by rw [w2_n (by omega)]; exact q2) (by rw [w2_n (by omega)]; exact q3) rfl ⟨fun d => ?_, fun d => ?_⟩
        · rw [ibc_0, Classical.not_not] at d
          exact skip (fun z => z.1 d)
        · rw [ibc_0, Classical.not_not] at d
          refine sp_byTwo (hL.k g1 fJ) (PB42.k hC g1 fJ) hn hB hr (hV.k fJ) b (g4.m f60) g5 i j hij hj d (by rw [dot_com]; exact c) (fun A' B' k1 k2 k3 k4 => ih A' B' ⟨⟨g1.tr k1, fJ.tr (LJH_k k2), mk.f k2 (fun k => by unfold LJH; omega), k3, k4⟩, by omega⟩)
    · rintro A B ⟨⟨g1, g2, g3, g4, g5⟩, hij⟩
      have hLA := hL.k g1 g2
      refine lp_18_14 _ _ A B ⟨fun _ => ?_, fun q => ?_⟩
      · rw [i3_add]
        refine hc A B ⟨g1, g2, fun a c h1 h2 h3 => g3 a c h1 h2 (by unfold seenP at h3 ⊢; omega), g4, g5⟩
      · rw [hLA.1, i3_le (by omega) (by omega) (by omega) (by omega)] at q; omega
  refine for_lp (f := fun i b => forN (hA2 W r i) (i + 1) (n - (i + 1)) b) (n := n) (R := fun i b A B => HR i 0 b A B) (G := fun i _ A B => GoV E mt_18 2 [some (.ref 55), some (.ref 42), some (.int (i3 (i : Nat))), none, none] A B Q) ?_ n 0 b0 SI SJ (by omega) ⟨FI.rf, FJ.rf, fun a c h1 h2 h3 => by unfold seenP at h3; omega, hb, hwb⟩ ?_
  · rintro i b A B hi ⟨g1, g2, g3, g4, g5⟩ ih
    have hLA := hL.k g1 g2
    refine lp_18_2 _ A B ⟨fun q => ?_, fun q => ?_⟩
    · rw [hLA.1, i3_le (by omega) (by omega) (by omega) (by omega)] at q; omega
    · rw [i3_add]
      exact inner i b A B hi ⟨g1, g2, fun a c h1 h2 h3 => g3 a c h1 h2 (by unfold seenP at h3 ⊢; omega), g4, g5⟩ ih
  · rintro A B ⟨g1, g2, g3, g4, g5⟩
    have hLA := hL.k g1 g2
    refine lp_18_2 _ A B ⟨fun _ => h A B g1 g2 (fun a c h1 h2 _ => g3 a c h1 h2 (by unfold seenP; omega)) g4 g5, fun q => ?_⟩
    rw [hLA.1, i3_le (by omega) (by omega) (by omega) (by omega)] at q; omega
theorem cd3_w (hB : Wb W n) (hr : Rb r) {i j k : Nat} (hi : i < n) (hj : j < n) (hk : k < n) (h : ok3 W r i j k) : WC (cd3 W r i j k) := by
  obtain ⟨l0, k1, k2, k3⟩ := h
  have eb : (det3 (W i) (W j) (W k)).natAbs ≤ 30000000 := by rw [det_dot, dot_com]; exact dot_b hB hi (crs_b hB hj hk)
  have eb1 : (det3 r (W j) (W k)).natAbs ≤ 40000000000 := by rw [det_dot, dot_com]; exact dot_r (crs_b hB hj hk) hr
  have eb2 : (det3 (W i) r (W k)).natAbs ≤ 40000000000 := by
    have e : det3 (W i) r (W k) = -dot (crs (W i) (W k)) r := by unfold det3 dot crs; dsimp only; grind
    have := dot_r (crs_b hB hi hk) hr
    rw [e]; omega
  have eb3 : (det3 (W i) (W j) r).natAbs ≤ 40000000000 := by
    have e : det3 (W i) (W j) r = dot (crs (W i) (W j)) r := by unfold det3 dot crs; dsimp only; grind
    rw [e]; exact dot_r (crs_b hB hi hj) hr
  have s0 := stn_l l0
  have s1 := stn_b (l := det3 (W i) (W j) (W k)) eb
  have s2 := stn_b (l := det3 (W i) (W j) (W k)) eb1
  have s3 := stn_b (l := det3 (W i) (W j) (W k)) eb2
  have s4 := stn_b (l := det3 (W i) (W j) (W k)) eb3
  unfold cd3 at k1 k2 k3 ⊢
  dsimp only at k1 k2 k3
  refine ⟨by dsimp only; decide, s0, by dsimp only; omega, fun t ht => ?_⟩
  have : t = 0 ∨ t = 1 ∨ t = 2 := by dsimp only at ht; omega
  rcases this with rfl | rfl | rfl
  · show 0 < stn (det3 (W i) (W j) (W k)) (det3 r (W j) (W k)) ∧ stn (det3 (W i) (W j) (W k)) (det3 r (W j) (W k)) ≤ 40000000000; omega
  · show 0 < stn (det3 (W i) (W j) (W k)) (det3 (W i) r (W k)) ∧ stn (det3 (W i) (W j) (W k)) (det3 (W i) r (W k)) ≤ 40000000000; omega
  · show 0 < stn (det3 (W i) (W j) (W k)) (det3 (W i) (W j) r) ∧ stn (det3 (W i) (W j) (W k)) (det3 (W i) (W j) r) ≤ 40000000000; omega
theorem sp_seekThrees {Q : gj_I → gj_J → Prop} (hL : LB42 W O n SI SJ) (hC : PB42 W n SI SJ) (hn : n ≤ 14) (hB : Wb W n) (hr : Rb r) (hM : MK (fun _ _ => True) W n r SJ) (b0 : Option Cd) (hb : RH b0 SI SJ) (hwb : WB b0) (h : ∀ SI' SJ', FI LIk SI SI' → FJ LJH SJ SJ' → RH (forN (fun i b => forN (fun j b => forN (hA3 W r i j) (j + 1) (n - (j + 1)) b) (i + 1) (n - (i + 1)) b) 0 n b0) SI' SJ' → WB (forN (fun i b => forN (fun j b => forN (hA3 W r i j) (j + 1) (n - (j + 1)) b) (i + 1) (n - (i + 1)) b) 0 n b0) → Q SI' SJ') : DoV E 20 [(.ref 55), (.ref 42)] SI SJ Q := by
  refine st_20 SI SJ ?_
  let HR : Option Cd → gj_I → gj_J → Prop := fun b A B => FI LIk SI A ∧ FJ LJH SJ B ∧ RH b A B ∧ WB b
  have e3 : ∀ i j, det3 (W i) (W j) r = dot r (crs (W i) (W j)) := fun i j => by unfold det3 dot crs; dsimp only; grind
  have e2 : ∀ i k, det3 (W i) r (W k) = -dot r (crs (W i) (W k)) := fun i k => by unfold det3 dot crs; dsimp only; grind
  have e1 : ∀ j k, det3 r (W j) (W k) = dot r (crs (W j) (W k)) := fun j k => det_dot _ _ _
  have dr : ∀ i j, i < n → j < n → (dot r (crs (W i) (W j))).natAbs ≤ 40000000000 := fun i j hi hj => by rw [dot_com]; exact dot_r (crs_b hB hi hj) hr
  have l3 : ∀ (i j : Nat) (b : Option Cd) (A : gj_I) (B : gj_J), i < j → j < n → HR b A B → (∀ A' B', HR (forN (hA3 W r i j) (j + 1) (n - (j + 1)) b) A' B' → GoV E mt_20 14 [some (.ref 55), some (.ref 42), some (.int (i3 (i : Nat))), some (.int (i3 ((j + 1 : Nat) : Int))), none, none, none, none, none, none] A' B' Q) → GoV E mt_20 49 [some (.ref 55), some (.ref 42), some (.int (i3 (i : Nat))), some (.int (i3 (j : Nat))), some (.long (i6 (dot r (crs (W i) (W j))))), none, some (.int (i3 ((j + 1 : Nat) : Int))), none, none, none] A B Q := by
    intro i j b A B hij hj hH hc
    have hi : i < n := by omega
    refine for_lp (f := hA3 W r i j) (n := n) (R := fun k b A B => HR b A B ∧ j < k) (G := fun k _ A B => GoV E mt_20 49 [some (.ref 55), some (.ref 42), some (.int (i3 (i : Nat))), some (.int (i3 (j : Nat))), some (.long (i6 (dot r (crs (W i) (W j))))), none, some (.int (i3 (k : Nat))), none, none, none] A B Q) ?_ (n - (j + 1)) (j + 1) b A B (by omega) ⟨hH, by omega⟩ ?_
    · rintro k b A B hk ⟨⟨g1, g2, g4, g5⟩, hjk⟩ ih
      have hLA := hL.k g1 (LJH_k g2)
      have hCA := PB42.k hC g1 (LJH_k g2)
      have hMA : MK (fun _ _ => True) W n r B := hM.f g2 (fun k => by unfold LJH; omega)
      have c1 := cpl_b hjk (show k < 14 by omega)
      have c2 := cpl_b (show i < k by omega) (show k < 14 by omega)
      obtain ⟨q1, q2, q3, -, -⟩ := hCA j k hjk hk trivial
      have m1 := hMA j k hjk hk trivial
      have m2 := hMA i k (by omega) hk trivial
      have d1 := dr j k hj hk; have d2 := dr i k hi hk; have d3 := dr i j hi hj
      have eb : (det3 (W i) (W j) (W k)).natAbs ≤ 30000000 := by rw [det_dot, dot_com]; exact dot_b hB hi (crs_b hB hj hk)
      refine lp_20_49 _ _ _ _ A B ⟨fun q => ?_, fun q => sp_couple j k (by omega) rfl rfl (sp_couple i k (by omega) rfl rfl ?_)⟩
      · rw [hLA.1, i3_le (by omega) (by omega) (by omega) (by omega)] at q; omega
      · rw [i3_in (by omega) (by omega), i3_in (by omega) (by omega), i3_n (by omega) (by omega), i3_n (by omega) (by omega), show ((cpl j k : Nat) : Int).toNat = cpl j k by omega, show ((cpl i k : Nat) : Int).toNat = cpl i k by omega, m1, m2, i6_neg, i3_add]
        refine ⟨by omega, by omega, sp_volume42 hLA hn i (cpl j k) hi c1 q1 q2 q3 rfl rfl ?_⟩
        rw [← e1] at d1
        have d2' : (det3 (W i) r (W k)).natAbs ≤ 40000000000 := by rw [e2]; omega
        rw [← e3] at d3
        refine sp_hstep b (cd3 W r i j k) (ok3 W r i j k) (det3 r (W j) (W k)) (det3 (W i) r (W k)) (det3 (W i) (W j) r) (det3 (W i) (W j) (W k)) i j k g4 g5 d1 d2' d3 eb ⟨by show 1 ≤ 3; decide, by show 3 ≤ 3; decide⟩ ⟨fun q => absurd q (by show ¬ 3 = 1; decide), fun q => absurd q (by show ¬ 3 = 2; decide)⟩ ?_ ?_ rfl rfl (by rw [e1]) (by rw [e2]) (by rw [e3]) (by rw [det_dot]) rfl rfl rfl (fun A' B' k1 k2 k3 k4 => ih A' B' ⟨⟨g1.tr k1, g2.tr k2, k3, k4⟩, by omega⟩)
        · rw [ok3_iff]
          exact ⟨fun z => ⟨z.1, fun _ => z.2.1, fun _ => z.2.2⟩, fun z => ⟨z.1, z.2.1 (by show 1 < 3; decide), z.2.2 (by show 2 < 3; decide)⟩⟩
        · intro hp
          refine ⟨cd3_w hB hr hi hj hk hp, ?_⟩
          have l0 := hp.1
          unfold cd3
          dsimp only
          rw [stn_sg l0, stn_sg l0, stn_sg l0, stn_sg l0]
          exact ⟨rfl, fun _ => rfl, fun _ => rfl⟩
    · rintro A B ⟨⟨g1, g2, g4, g5⟩, -⟩
      have hLA := hL.k g1 (LJH_k g2)
      refine lp_20_49 _ _ _ _ A B ⟨fun _ => ?_, fun q => ?_⟩
      · rw [i3_add]; exact hc A B ⟨g1, g2, g4, g5⟩
      · rw [hLA.1, i3_le (by omega) (by omega) (by omega) (by omega)] at q; omega
  have z3 : ∀ i j, dot r (crs (W i) (W j)) = 0 → ∀ d k b, forN (hA3 W r i j) k d b = b := by
    intro i j hz d
    induction d with
    | zero => intro k b; rfl
    | succ d ih =>
      intro k b
      show forN (hA3 W r i j) (k + 1) d (hA3 W r i j k b) = b
      have e : hA3 W r i j k b = b := ic_f (fun hp => by
        have := hp.2.2.2
        unfold cd3 at this
        dsimp only at this
        rw [e3, hz, stn_sg hp.1, Int.mul_zero] at this
        omega)
      rw [e]; exact ih (k + 1) b
  have l2 : ∀ (i : Nat) (b : Option Cd) (A : gj_I) (B : gj_J), i < n → HR b A B → (∀ A' B', HR (forN (fun j b => forN (hA3 W r i j) (j + 1) (n - (j + 1)) b) (i + 1) (n - (i + 1)) b) A' B' → GoV E mt_20 2 [some (.ref 55), some (.ref 42), some (.int (i3 ((i + 1 : Nat) : Int))), none, none, none, none, none, none, none] A' B' Q) → GoV E mt_20 14 [some (.ref 55), some (.ref 42), some (.int (i3 (i : Nat))), some (.int (i3 ((i + 1 : Nat) : Int))), none, none, none, none, none, none] A B Q := by
    intro i b A B hi hH hc
    refine for_lp (f := fun j b => forN (hA3 W r i j) (j + 1) (n - (j + 1)) b) (n := n) (R := fun j b A B => HR b A B ∧ i < j) (G := fun j _ A B => GoV E mt_20 14 [some (.ref 55), some (.ref 42), some (.int (i3 (i : Nat))), some (.int (i3 (j : Nat))), none, none, none, none, none, none] A B Q) ?_ (n - (i + 1)) (i + 1) b A B (by omega) ⟨hH, by omega⟩ ?_
    · rintro j b A B hj ⟨hH, hij⟩ ih
      have hLA := hL.k hH.1 (LJH_k hH.2.1)
      have hMA : MK (fun _ _ => True) W n r B := hM.f hH.2.1 (fun k => by unfold LJH; omega)
      have c1 := cpl_b hij (show j < 14 by omega)
      have m1 := hMA i j hij hj trivial
      have d1 := dr i j hi hj
      refine lp_20_14 _ _ A B ⟨fun q => ?_, fun q => sp_couple i j (by omega) rfl rfl ?_⟩
      · rw [hLA.1, i3_le (by omega) (by omega) (by omega) (by omega)] at q; omega
      · rw [i3_in (by omega) (by omega), i3_n (by omega) (by omega), show ((cpl i j : Nat) : Int).toNat = cpl i j by omega, m1, i6_eq (by omega) (by omega) (by omega) (by omega), i3_add]
        refine ⟨by omega, fun c => l3 i j b A B hij hj hH (fun A' B' hH' => ih A' B' ⟨hH', by omega⟩), fun c => ?_⟩
        rw [z3 i j c] at ih
        exact ih A B ⟨hH, by omega⟩
    · rintro A B ⟨hH, -⟩
      have hLA := hL.k hH.1 (LJH_k hH.2.1)
      refine lp_20_14 _ _ A B ⟨fun _ => ?_, fun q => ?_⟩
      · rw [i3_add]; exact hc A B hH
      · rw [hLA.1, i3_le (by omega) (by omega) (by omega) (by omega)] at q; omega
  refine for_lp (f := fun i b => forN (fun j b => forN (hA3 W r i j) (j + 1) (n - (j + 1)) b) (i + 1) (n - (i + 1)) b) (n := n) (R := fun _ b A B => HR b A B) (G := fun i _ A B => GoV E mt_20 2 [some (.ref 55), some (.ref 42), some (.int (i3 (i : Nat))), none, none, none, none, none, none, none] A B Q) ?_ n 0 b0 SI SJ (by omega) ⟨FI.rf, FJ.rf, hb, hwb⟩ ?_
  · intro i b A B hi hH ih
    have hLA := hL.k hH.1 (LJH_k hH.2.1)
    refine lp_20_2 _ A B ⟨fun q => ?_, fun q => ?_⟩
    · rw [hLA.1, i3_le (by omega) (by omega) (by omega) (by omega)] at q; omega
    · rw [i3_add]
      exact l2 i b A B hi hH ih
  · rintro A B ⟨g1, g2, g4, g5⟩
    have hLA := hL.k g1 (LJH_k g2)
    refine lp_20_2 _ A B ⟨fun _ => h A B g1 g2 g4 g5, fun q => ?_⟩
    rw [hLA.1, i3_le (by omega) (by omega) (by omega) (by omega)] at q; omega
end Seek4
