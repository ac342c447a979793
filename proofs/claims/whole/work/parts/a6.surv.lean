/-! a6: sides of the class: consider, survey -/
theorem dot_sc (g : Int) (p w : V3) : dot (g * p.1, g * p.2.1, g * p.2.2) w = g * dot p w := by unfold dot; dsimp only; grind
theorem sgn_bb (d : Int) : -1 ≤ d.sign ∧ d.sign ≤ 1 := by
  rcases Int.lt_trichotomy d 0 with q | q | q
  · rw [Int.sign_eq_neg_one_of_neg q]; decide
  · rw [q]; decide
  · rw [Int.sign_eq_one_of_pos q]; decide
def LJsv52 (o k : Nat) : Prop := LJsd52 o k ∨ o = 53
section Surv52
variable {E : gj_E} {SI : gj_I} {SJ : gj_J} {W : Nat → V3} {O : Nat → Int} {n : Nat}
theorem RSc52.p {s : Sds} {B2 : gj_J} (h : RSc52 W n s SI SJ) (f : ∀ k, k < 8 → B2 52 k = SJ 52 k) : RSc52 W n s SI B2 :=
  ⟨h.1, h.2.1, fun z => by rw [f 3 (by omega), f 4 (by omega), f 5 (by omega), f 6 (by omega), f 7 (by omega)]; exact h.2.2 z⟩
theorem sp_consider52 {Q : gj_I → gj_J → Prop} {a b c : Int32} (i j k : Nat) (hij : i < j) (hjk : j < k) (hk : k < n) (hL : LB42 W O n SI SJ) (hP : PB42 W n SI SJ) (hn : n ≤ 14) (hB : Wb W n) (s : Sds) (hs : RSc52 W n s SI SJ) (hF : FS W n s) (ha : a = i3 i) (hb : b = i3 j) (hc : c = i3 k) (h : ∀ SI' SJ', FI LIsd52 SI SI' → FJ LJsd52 SJ SJ' → RSc52 W n (sdS W n i j k s) SI' SJ' → FS W n (sdS W n i j k s) → Q SI' SJ') : DoV E 54 [(.ref 52), (.ref 42), (.int a), (.int b), (.int c)] SI SJ Q := by
  subst ha; subst hb; subst hc
  have hi : i < n := by omega
  have hj : j < n := by omega
  have cb1 := cpl_b hjk (show k < 14 by omega)
  have cb2 := cpl_b hij (show j < 14 by omega)
  have cb3 := cpl_b (show i < k by omega) (show k < 14 by omega)
  obtain ⟨f1, f2, f3, -, -⟩ := hP j k hjk hk trivial
  obtain ⟨m1, m2, m3, -, -⟩ := hP i j hij hj trivial
  obtain ⟨x1, x2, x3, -, -⟩ := hP i k (by omega) hk trivial
  have pc := pn3_b hB hi hj hk
  have pd := Pc_dot hB hi pc
  have few := hF.few hB
  have okk : ∀ p, sdP W n i j k = some p → okS p (dot p (W i)) := fun p hp => sdP_ok hB hi hj hk hp
  have same : sdP W n i j k = none → sdS W n i j k s = s := fun z => by unfold sdS; rw [z]
  refine st_54_52_42 _ _ _ SI SJ (sp_couple j k (by omega) rfl rfl (sp_volume42 hL hn i (cpl j k) hi cb1 f1 f2 f3 rfl rfl ?_))
  rw [pv_id, i6_eq (by omega) (by omega) (by omega) (by omega)]
  refine ⟨fun c => ?_, fun c => ?_⟩
  · have hsd := sd_pl c
    have sdn := sdP_n (W := W) (n := n) (i := i) (j := j) (k := k)
    have sds := sdP_s hi hj hk c
    obtain ⟨P1, P2, P3⟩ := pn_1 (W i) (W j) (W k)
    have e47 : ∀ (x : Int64) o k, o ≠ 52 → (gj_w2 SJ 52 11 x) o k = SJ o k := fun x o k h => w2_n (by omega)
    refine sp_couple i j (by omega) rfl rfl (sp_couple i k (by omega) rfl rfl (sp_lsignum (dot (pn3 (W i) (W j) (W k)) (W i)) (by omega) (by omega) w2_s ?_))
    rw [i3_in (by omega) (by omega), i3_in (by omega) (by omega), i3_in (by omega) (by omega), i3_n (by omega) (by omega), i3_n (by omega) (by omega), i3_n (by omega) (by omega), show ((cpl i j : Nat) : Int).toNat = cpl i j by omega, show ((cpl j k : Nat) : Int).toNat = cpl j k by omega, show ((cpl i k : Nat) : Int).toNat = cpl i k by omega]
    rw [e47 _ 47 (cpl i j) (by decide), e47 _ 47 (cpl j k) (by decide), e47 _ 47 (cpl i k) (by decide), e47 _ 48 (cpl i j) (by decide), e47 _ 48 (cpl j k) (by decide), e47 _ 48 (cpl i k) (by decide), e47 _ 49 (cpl i j) (by decide), e47 _ 49 (cpl j k) (by decide), e47 _ 49 (cpl i k) (by decide), w2_s, f1, f2, f3, m1, m2, m3, x1, x2, x3]
    generalize pn3 (W i) (W j) (W k) = N at *
    have sb := sgn_bb (dot N (W i))
    rw [i6_add, i6_sub, P1, i6_add, i6_sub, P2, i6_add, i6_sub, P3, i3_64 (by omega) (by omega), i6_mul, i6_mul, i6_mul, i6_mul]
    obtain ⟨g0, g1, d0, s1, s2, s3, s4⟩ := hsd
    have n1 := mul_b (a := (dot N (W i)).sign) (b := N.1) (m := 1) (n := 600000) (by omega) pc.1
    have n2 := mul_b (a := (dot N (W i)).sign) (b := N.2.1) (m := 1) (n := 600000) (by omega) pc.2.1
    have n3 := mul_b (a := (dot N (W i)).sign) (b := N.2.2) (m := 1) (n := 30000) (by omega) pc.2.2
    have n4 := mul_b (a := (dot N (W i)).sign) (b := dot N (W i)) (m := 1) (n := 110000000) (by omega) pd
    rw [s1] at n1 ⊢
    rw [s2] at n2 ⊢
    rw [s3] at n3 ⊢
    rw [s4] at n4 ⊢
    clear s1 s2 s3 s4 sb P1 P2 P3
    generalize up3 (low3 N) (W i) = p at *
    generalize (gcd3 N : Int) = g at *
    have gN : Pc (g * p.1, g * p.2.1, g * p.2.2) := ⟨by dsimp only; omega, by dsimp only; omega, by dsimp only; omega⟩
    have o0 : 0 ≤ g * dot p (W i) := Int.mul_nonneg (by omega) (by omega)
    refine ⟨by omega, by omega, by omega, ?_⟩
    have fJ : FJ LJsd52 SJ (gj_w2 (gj_w2 (gj_w2 (gj_w2 (gj_w2 SJ 52 11 (i6 (dot N (W i)))) 52 8 (i6 (g * p.1))) 52 9 (i6 (g * p.2.1))) 52 10 (i6 (g * p.2.2))) 52 11 (i6 (g * dot p (W i)))) := ((((FJ.rf.w ⟨rfl, by decide, by decide⟩).w ⟨rfl, by decide, by decide⟩).w ⟨rfl, by decide, by decide⟩).w ⟨rfl, by decide, by decide⟩).w ⟨rfl, by decide, by decide⟩
    have v1 : (gj_w2 (gj_w2 (gj_w2 (gj_w2 (gj_w2 SJ 52 11 (i6 (dot N (W i)))) 52 8 (i6 (g * p.1))) 52 9 (i6 (g * p.2.1))) 52 10 (i6 (g * p.2.2))) 52 11 (i6 (g * dot p (W i)))) 52 8 = i6 (g * p.1) := by rw [w2_n (by omega), w2_n (by omega), w2_n (by omega), w2_s]
    have v2 : (gj_w2 (gj_w2 (gj_w2 (gj_w2 (gj_w2 SJ 52 11 (i6 (dot N (W i)))) 52 8 (i6 (g * p.1))) 52 9 (i6 (g * p.2.1))) 52 10 (i6 (g * p.2.2))) 52 11 (i6 (g * dot p (W i)))) 52 9 = i6 (g * p.2.1) := by rw [w2_n (by omega), w2_n (by omega), w2_s]
    have v3 : (gj_w2 (gj_w2 (gj_w2 (gj_w2 (gj_w2 SJ 52 11 (i6 (dot N (W i)))) 52 8 (i6 (g * p.1))) 52 9 (i6 (g * p.2.1))) 52 10 (i6 (g * p.2.2))) 52 11 (i6 (g * dot p (W i)))) 52 10 = i6 (g * p.2.2) := by rw [w2_n (by omega), w2_s]
    have v4 : (gj_w2 (gj_w2 (gj_w2 (gj_w2 (gj_w2 SJ 52 11 (i6 (dot N (W i)))) 52 8 (i6 (g * p.1))) 52 9 (i6 (g * p.2.1))) 52 10 (i6 (g * p.2.2))) 52 11 (i6 (g * dot p (W i)))) 52 11 = i6 (g * dot p (W i)) := w2_s
    have k1 : ∀ k, k < 8 → (gj_w2 (gj_w2 (gj_w2 (gj_w2 (gj_w2 SJ 52 11 (i6 (dot N (W i)))) 52 8 (i6 (g * p.1))) 52 9 (i6 (g * p.2.1))) 52 10 (i6 (g * p.2.2))) 52 11 (i6 (g * dot p (W i)))) 52 k = SJ 52 k := fun k hk => by rw [w2_n (by omega), w2_n (by omega), w2_n (by omega), w2_n (by omega), w2_n (by omega)]
    generalize gj_w2 (gj_w2 (gj_w2 (gj_w2 (gj_w2 SJ 52 11 (i6 (dot N (W i)))) 52 8 (i6 (g * p.1))) 52 9 (i6 (g * p.2.1))) 52 10 (i6 (g * p.2.2))) 52 11 (i6 (g * dot p (W i))) = B1 at *
    have hs1 := hs.p k1
    have hL1 : LB42 W O n SI B1 := hL.f (L := fun _ _ => False) FI.rf fJ ⟨fun z => z, fun _ z => z⟩ (fun k => by unfold LJsd52; omega)
    refine sp_touched52 (N := (g * p.1, g * p.2.1, g * p.2.2)) (c := g * dot p (W i)) hL1 hn hB gN (by omega) v1 v2 v3 v4 (fun hx => ?_) (fun hx => ?_)
    · obtain ⟨q, q1, q2⟩ := hx
      rw [dot_sc] at q2
      have e := same (sdn ⟨q, q1, Int.lt_of_mul_lt_mul_left q2 (Int.le_of_lt g0)⟩)
      rw [e] at h
      exact ⟨fun _ => h SI B1 FI.rf fJ hs1 hF, fun z => absurd rfl z⟩
    · have hm : ∀ q, q < n → dot p (W q) ≤ dot p (W i) := fun q hq => by
        have := hx q hq
        rw [dot_sc] at this
        exact Int.le_of_mul_le_mul_left this g0
      obtain ⟨sd1, sd2⟩ := sds hm
      have ok := okk p sd1
      have ht : tch W n p (tcS W (g * p.1, g * p.2.1, g * p.2.2) (g * dot p (W i)) n) := tcS_t g0 rfl rfl rfl ⟨i, hi, rfl⟩ hm
      have tb : (tcS W (g * p.1, g * p.2.1, g * p.2.2) (g * dot p (W i)) n).testBit i = true := (ht.2 i).mpr ⟨hi, hm⟩
      generalize tcS W (g * p.1, g * p.2.1, g * p.2.2) (g * dot p (W i)) n = t at *
      have t0 : t ≠ 0 := fun z => by rw [z, Nat.zero_testBit] at tb; cases tb
      have t1 := ht.1
      have p14 : 2 ^ n ≤ 2 ^ 14 := Nat.pow_le_pow_right (by decide) hn
      have es : sdS W n i j k s = ic (kno s p) s (tkS s p (dot p (W i))) := by unfold sdS; rw [sd1]
      rw [es] at h
      have s24 : ¬ kno s p → s.1 < 24 := fun nk => by
        have := (hF.tk sd2 nk ok).few hB
        have e2 : (tkS s p (dot p (W i))).1 = s.1 + 1 := rfl
        omega
      rw [i3_eq0 (by omega) (by omega)]
      refine ⟨fun z => by omega, fun _ => sp_isNew52 s hs1 hF hn sd2 t ht ⟨by omega, s24⟩ rfl ⟨fun y => ?_, fun y => ?_⟩⟩
      · rw [ibc_0, Classical.not_not] at y
        rw [ic_t y] at h
        exact h SI B1 FI.rf fJ hs1 hF
      · rw [ibc_0, Classical.not_not] at y
        rw [ic_f y] at h
        refine sp_noteC52 s hs1 hF.2.2 (s24 y) ok g1 g0 gN (by omega) ⟨v1, v2, v3, v4⟩ t ht rfl (fun A2 B2 l1 l2 l3 => ?_)
        exact h A2 B2 l1 (fJ.tr l2) l3 (hF.tk sd2 y ok)
  · rw [same (sdP_0 c)] at h
    exact h SI _ FI.rf (FJ.rf.w ⟨rfl, by decide, by decide⟩) (hs.p (fun k hk => w2_n (by omega))) hF
theorem sp_survey52 {Q : gj_I → gj_J → Prop} (hL : LB42 W O n SI SJ) (hP : PB42 W n SI SJ) (hn : n ≤ 14) (hB : Wb W n) (hE : 0 < (sdA W n).1) (h : ∀ SI' SJ', FI LIsd52 SI SI' → FJ LJsv52 SJ SJ' → RSc52 W n (sdA W n) SI' SJ' → FS W n (sdA W n) → SJ' 53 0 = i6 (lox (sdA W n).2.2.2 (sz3 (sdA W n).2.2.1)) → SJ' 53 1 = i6 (loy (sdA W n).2.2.2 (sz3 (sdA W n).2.2.1)) → Q SI' SJ') : DoV E 53 [(.ref 52), (.ref 42)] SI SJ Q := by
  refine st_53_52_42 SI SJ ?_
  let HR : Sds → gj_I → gj_J → Prop := fun s A B => FI LIsd52 SI A ∧ FJ LJsd52 SJ B ∧ RSc52 W n s A B ∧ FS W n s
  have lw : ∀ s A B, HR s A B → LB42 W O n A B := fun s A B g => hL.f g.1 g.2.1 (by unfold LIsd52; exact ⟨by omega, fun k => by omega⟩) (fun k => by unfold LJsd52; omega)
  have lp : ∀ s A B, HR s A B → PB42 W n A B := fun s A B g => CB42.f hP g.1 g.2.1 (fun k => by unfold LIsd52; omega) (fun k => by unfold LJsd52; omega)
  have l3 : ∀ (i j : Nat) (s : Sds) (A : gj_I) (B : gj_J), i < n → i < j → j < n → HR s A B → (∀ A' B', HR (sdJ W n i j s) A' B' → GoV E mt_53 19 [some (.ref 52), some (.ref 42), some (.int (i3 (i : Nat))), some (.int (i3 ((j + 1 : Nat) : Int))), none] A' B' Q) → GoV E mt_53 32 [some (.ref 52), some (.ref 42), some (.int (i3 (i : Nat))), some (.int (i3 (j : Nat))), some (.int (i3 ((j + 1 : Nat) : Int)))] A B Q := by
    intro i j s A B hi hij hj hH hc
    refine for_lp (f := sdS W n i j) (n := n) (R := fun k s A B => HR s A B ∧ j < k) (G := fun k s A B => GoV E mt_53 32 [some (.ref 52), some (.ref 42), some (.int (i3 (i : Nat))), some (.int (i3 (j : Nat))), some (.int (i3 (k : Nat)))] A B Q) ?_ (n - (j + 1)) (j + 1) s A B (by omega) ⟨hH, by omega⟩ ?_
    · rintro k s A B hk ⟨hH, hjk⟩ ih
      have hLA := lw _ _ _ hH
      have hPA := lp _ _ _ hH
      obtain ⟨g1, g2, g3, g4⟩ := hH
      refine lp_53_32_52_42 _ _ _ A B ⟨fun q => ?_, fun q => sp_consider52 i j k hij hjk hk hLA hPA hn hB s g3 g4 rfl rfl rfl (fun A2 B2 l1 l2 l3 l4 => ?_)⟩
      · rw [hLA.1, i3_le (by omega) (by omega) (by omega) (by omega)] at q; omega
      · rw [i3_add]
        exact ih A2 B2 ⟨⟨g1.tr l1, g2.tr l2, l3, l4⟩, by omega⟩
    · rintro A' B' ⟨hH', -⟩
      have hLA := lw _ _ _ hH'
      refine lp_53_32_52_42 _ _ _ A' B' ⟨fun _ => ?_, fun q => ?_⟩
      · rw [i3_add]
        exact hc A' B' hH'
      · rw [hLA.1, i3_le (by omega) (by omega) (by omega) (by omega)] at q; omega
  have l2 : ∀ (i : Nat) (s : Sds) (A : gj_I) (B : gj_J), i < n → HR s A B → (∀ A' B', HR (sdI W n i s) A' B' → GoV E mt_53 7 [some (.ref 52), some (.ref 42), some (.int (i3 ((i + 1 : Nat) : Int))), none, none] A' B' Q) → GoV E mt_53 19 [some (.ref 52), some (.ref 42), some (.int (i3 (i : Nat))), some (.int (i3 ((i + 1 : Nat) : Int))), none] A B Q := by
    intro i s A B hi hH hc
    refine for_lp (f := sdJ W n i) (n := n) (R := fun j s A B => HR s A B ∧ i < j) (G := fun j s A B => GoV E mt_53 19 [some (.ref 52), some (.ref 42), some (.int (i3 (i : Nat))), some (.int (i3 (j : Nat))), none] A B Q) ?_ (n - (i + 1)) (i + 1) s A B (by omega) ⟨hH, by omega⟩ ?_
    · rintro j s A B hj ⟨hH, hij⟩ ih
      have hLA := lw _ _ _ hH
      refine lp_53_19_52_42 _ _ A B ⟨fun q => ?_, fun q => ?_⟩
      · rw [hLA.1, i3_le (by omega) (by omega) (by omega) (by omega)] at q; omega
      · rw [i3_add]
        exact l3 i j s A B hi hij hj hH (fun A' B' hH' => ih A' B' ⟨hH', by omega⟩)
    · rintro A' B' ⟨hH', -⟩
      have hLA := lw _ _ _ hH'
      refine lp_53_19_52_42 _ _ A' B' ⟨fun _ => ?_, fun q => ?_⟩
      · rw [i3_add]
        exact hc A' B' hH'
      · rw [hLA.1, i3_le (by omega) (by omega) (by omega) (by omega)] at q; omega
  refine for_lp (f := sdI W n) (n := n) (R := fun i s A B => HR s A B) (G := fun i s A B => GoV E mt_53 7 [some (.ref 52), some (.ref 42), some (.int (i3 (i : Nat))), none, none] A B Q) ?_ n 0 (0, (fun _ => (0, 0, 0)), (0, 0, 0), 0) _ SJ (by omega) ⟨FI.rf.u (Or.inl ⟨rfl, rfl⟩), FJ.rf, ⟨u2_s, fun k hk => absurd hk (Nat.not_lt_zero k), fun hk => absurd hk (Nat.lt_irrefl 0)⟩, ⟨fun k hk => absurd hk (Nat.not_lt_zero k), fun a b _ hb => absurd hb (Nat.not_lt_zero b), fun k hk => absurd hk (Nat.not_lt_zero k), fun hk => absurd hk (Nat.lt_irrefl 0)⟩⟩ ?_
  · intro i s A B hi hH ih
    have hLA := lw _ _ _ hH
    refine lp_53_7_52_42 _ A B ⟨fun q => ?_, fun q => ?_⟩
    · rw [hLA.1, i3_le (by omega) (by omega) (by omega) (by omega)] at q; omega
    · rw [i3_add]
      exact l2 i s A B hi hH ih
  · intro A' B' hH'
    have hLA := lw _ _ _ hH'
    have hH2 : HR (sdA W n) A' B' := hH'
    obtain ⟨g1, g2, g3, g4⟩ := hH2
    clear hH'
    generalize sdA W n = s at *
    obtain ⟨t1, t2, t3, t4, t5⟩ := g3.2.2 hE
    obtain ⟨k1, k2, k3, k4⟩ := g4.2.2.2 hE
    have z1 := sz3_b k1
    have z2 := sz3_p k2
    refine lp_53_7_52_42 _ A' B' ⟨fun _ => sp_become53 s.2.2.2 (sz3 s.2.2.1) (by omega) (by omega) t4 t5 ?_, fun q => ?_⟩
    · refine h _ _ g1 (((g2.le (fun o k z => Or.inl z) : FJ LJsv52 SJ B').w (Or.inr rfl)).w (Or.inr rfl)) (g3.p (fun k hk => by rw [w2_n (by omega), w2_n (by omega)])) g4 (by rw [w2_n (by omega), w2_s]) (by rw [w2_s])
    · rw [hLA.1, i3_le (by omega) (by omega) (by omega) (by omega)] at q; omega
end Surv52
def LJsv76 (o k : Nat) : Prop := LJsd76 o k ∨ o = 77
section Surv76
variable {E : gj_E} {SI : gj_I} {SJ : gj_J} {W : Nat → V3} {O : Nat → Int} {n : Nat}
theorem RSc76.p {s : Sds} {B2 : gj_J} (h : RSc76 W n s SI SJ) (f : ∀ k, k < 8 → B2 76 k = SJ 76 k) : RSc76 W n s SI B2 :=
  ⟨h.1, h.2.1, fun z => by rw [f 3 (by omega), f 4 (by omega), f 5 (by omega), f 6 (by omega), f 7 (by omega)]; exact h.2.2 z⟩
theorem sp_consider76 {Q : gj_I → gj_J → Prop} {a b c : Int32} (i j k : Nat) (hij : i < j) (hjk : j < k) (hk : k < n) (hL : LB66 W O n SI SJ) (hP : PB66 W n SI SJ) (hn : n ≤ 14) (hB : Wb W n) (s : Sds) (hs : RSc76 W n s SI SJ) (hF : FS W n s) (ha : a = i3 i) (hb : b = i3 j) (hc : c = i3 k) (h : ∀ SI' SJ', FI LIsd76 SI SI' → FJ LJsd76 SJ SJ' → RSc76 W n (sdS W n i j k s) SI' SJ' → FS W n (sdS W n i j k s) → Q SI' SJ') : DoV E 54 [(.ref 76), (.ref 66), (.int a), (.int b), (.int c)] SI SJ Q := by
  subst ha; subst hb; subst hc
  have hi : i < n := by omega
  have hj : j < n := by omega
  have cb1 := cpl_b hjk (show k < 14 by omega)
  have cb2 := cpl_b hij (show j < 14 by omega)
  have cb3 := cpl_b (show i < k by omega) (show k < 14 by omega)
  obtain ⟨f1, f2, f3, -, -⟩ := hP j k hjk hk trivial
  obtain ⟨m1, m2, m3, -, -⟩ := hP i j hij hj trivial
  obtain ⟨x1, x2, x3, -, -⟩ := hP i k (by omega) hk trivial
  have pc := pn3_b hB hi hj hk
  have pd := Pc_dot hB hi pc
  have few := hF.few hB
  have okk : ∀ p, sdP W n i j k = some p → okS p (dot p (W i)) := fun p hp => sdP_ok hB hi hj hk hp
  have same : sdP W n i j k = none → sdS W n i j k s = s := fun z => by unfold sdS; rw [z]
  refine st_54_76_66 _ _ _ SI SJ (sp_couple j k (by omega) rfl rfl (sp_volume66 hL hn i (cpl j k) hi cb1 f1 f2 f3 rfl rfl ?_))
  rw [pv_id, i6_eq (by omega) (by omega) (by omega) (by omega)]
  refine ⟨fun c => ?_, fun c => ?_⟩
  · have hsd := sd_pl c
    have sdn := sdP_n (W := W) (n := n) (i := i) (j := j) (k := k)
    have sds := sdP_s hi hj hk c
    obtain ⟨P1, P2, P3⟩ := pn_1 (W i) (W j) (W k)
    have e47 : ∀ (x : Int64) o k, o ≠ 76 → (gj_w2 SJ 76 11 x) o k = SJ o k := fun x o k h => w2_n (by omega)
    refine sp_couple i j (by omega) rfl rfl (sp_couple i k (by omega) rfl rfl (sp_lsignum (dot (pn3 (W i) (W j) (W k)) (W i)) (by omega) (by omega) w2_s ?_))
    rw [i3_in (by omega) (by omega), i3_in (by omega) (by omega), i3_in (by omega) (by omega), i3_n (by omega) (by omega), i3_n (by omega) (by omega), i3_n (by omega) (by omega), show ((cpl i j : Nat) : Int).toNat = cpl i j by omega, show ((cpl j k : Nat) : Int).toNat = cpl j k by omega, show ((cpl i k : Nat) : Int).toNat = cpl i k by omega]
    rw [e47 _ 71 (cpl i j) (by decide), e47 _ 71 (cpl j k) (by decide), e47 _ 71 (cpl i k) (by decide), e47 _ 72 (cpl i j) (by decide), e47 _ 72 (cpl j k) (by decide), e47 _ 72 (cpl i k) (by decide), e47 _ 73 (cpl i j) (by decide), e47 _ 73 (cpl j k) (by decide), e47 _ 73 (cpl i k) (by decide), w2_s, f1, f2, f3, m1, m2, m3, x1, x2, x3]
    generalize pn3 (W i) (W j) (W k) = N at *
    have sb := sgn_bb (dot N (W i))
    rw [i6_add, i6_sub, P1, i6_add, i6_sub, P2, i6_add, i6_sub, P3, i3_64 (by omega) (by omega), i6_mul, i6_mul, i6_mul, i6_mul]
    obtain ⟨g0, g1, d0, s1, s2, s3, s4⟩ := hsd
    have n1 := mul_b (a := (dot N (W i)).sign) (b := N.1) (m := 1) (n := 600000) (by omega) pc.1
    have n2 := mul_b (a := (dot N (W i)).sign) (b := N.2.1) (m := 1) (n := 600000) (by omega) pc.2.1
    have n3 := mul_b (a := (dot N (W i)).sign) (b := N.2.2) (m := 1) (n := 30000) (by omega) pc.2.2
    have n4 := mul_b (a := (dot N (W i)).sign) (b := dot N (W i)) (m := 1) (n := 110000000) (by omega) pd
    rw [s1] at n1 ⊢
    rw [s2] at n2 ⊢
    rw [s3] at n3 ⊢
    rw [s4] at n4 ⊢
    clear s1 s2 s3 s4 sb P1 P2 P3
    generalize up3 (low3 N) (W i) = p at *
    generalize (gcd3 N : Int) = g at *
    have gN : Pc (g * p.1, g * p.2.1, g * p.2.2) := ⟨by dsimp only; omega, by dsimp only; omega, by dsimp only; omega⟩
    have o0 : 0 ≤ g * dot p (W i) := Int.mul_nonneg (by omega) (by omega)
    refine ⟨by omega, by omega, by omega, ?_⟩
    have fJ : FJ LJsd76 SJ (gj_w2 (gj_w2 (gj_w2 (gj_w2 (gj_w2 SJ 76 11 (i6 (dot N (W i)))) 76 8 (i6 (g * p.1))) 76 9 (i6 (g * p.2.1))) 76 10 (i6 (g * p.2.2))) 76 11 (i6 (g * dot p (W i)))) := ((((FJ.rf.w ⟨rfl, by decide, by decide⟩).w ⟨rfl, by decide, by decide⟩).w ⟨rfl, by decide, by decide⟩).w ⟨rfl, by decide, by decide⟩).w ⟨rfl, by decide, by decide⟩
    have v1 : (gj_w2 (gj_w2 (gj_w2 (gj_w2 (gj_w2 SJ 76 11 (i6 (dot N (W i)))) 76 8 (i6 (g * p.1))) 76 9 (i6 (g * p.2.1))) 76 10 (i6 (g * p.2.2))) 76 11 (i6 (g * dot p (W i)))) 76 8 = i6 (g * p.1) := by rw [w2_n (by omega), w2_n (by omega), w2_n (by omega), w2_s]
    have v2 : (gj_w2 (gj_w2 (gj_w2 (gj_w2 (gj_w2 SJ 76 11 (i6 (dot N (W i)))) 76 8 (i6 (g * p.1))) 76 9 (i6 (g * p.2.1))) 76 10 (i6 (g * p.2.2))) 76 11 (i6 (g * dot p (W i)))) 76 9 = i6 (g * p.2.1) := by rw [w2_n (by omega), w2_n (by omega), w2_s]
    have v3 : (gj_w2 (gj_w2 (gj_w2 (gj_w2 (gj_w2 SJ 76 11 (i6 (dot N (W i)))) 76 8 (i6 (g * p.1))) 76 9 (i6 (g * p.2.1))) 76 10 (i6 (g * p.2.2))) 76 11 (i6 (g * dot p (W i)))) 76 10 = i6 (g * p.2.2) := by rw [w2_n (by omega), w2_s]
    have v4 : (gj_w2 (gj_w2 (gj_w2 (gj_w2 (gj_w2 SJ 76 11 (i6 (dot N (W i)))) 76 8 (i6 (g * p.1))) 76 9 (i6 (g * p.2.1))) 76 10 (i6 (g * p.2.2))) 76 11 (i6 (g * dot p (W i)))) 76 11 = i6 (g * dot p (W i)) := w2_s
    have k1 : ∀ k, k < 8 → (gj_w2 (gj_w2 (gj_w2 (gj_w2 (gj_w2 SJ 76 11 (i6 (dot N (W i)))) 76 8 (i6 (g * p.1))) 76 9 (i6 (g * p.2.1))) 76 10 (i6 (g * p.2.2))) 76 11 (i6 (g * dot p (W i)))) 76 k = SJ 76 k := fun k hk => by rw [w2_n (by omega), w2_n (by omega), w2_n (by omega), w2_n (by omega), w2_n (by omega)]
    generalize gj_w2 (gj_w2 (gj_w2 (gj_w2 (gj_w2 SJ 76 11 (i6 (dot N (W i)))) 76 8 (i6 (g * p.1))) 76 9 (i6 (g * p.2.1))) 76 10 (i6 (g * p.2.2))) 76 11 (i6 (g * dot p (W i))) = B1 at *
    have hs1 := hs.p k1
    have hL1 : LB66 W O n SI B1 := hL.f (L := fun _ _ => False) FI.rf fJ ⟨fun z => z, fun _ z => z⟩ (fun k => by unfold LJsd76; omega)
    refine sp_touched76 (N := (g * p.1, g * p.2.1, g * p.2.2)) (c := g * dot p (W i)) hL1 hn hB gN (by omega) v1 v2 v3 v4 (fun hx => ?_) (fun hx => ?_)
    · obtain ⟨q, q1, q2⟩ := hx
      rw [dot_sc] at q2
      have e := same (sdn ⟨q, q1, Int.lt_of_mul_lt_mul_left q2 (Int.le_of_lt g0)⟩)
      rw [e] at h
      exact ⟨fun _ => h SI B1 FI.rf fJ hs1 hF, fun z => absurd rfl z⟩
    · have hm : ∀ q, q < n → dot p (W q) ≤ dot p (W i) := fun q hq => by
        have := hx q hq
        rw [dot_sc] at this
        exact Int.le_of_mul_le_mul_left this g0
      obtain ⟨sd1, sd2⟩ := sds hm
      have ok := okk p sd1
      have ht : tch W n p (tcS W (g * p.1, g * p.2.1, g * p.2.2) (g * dot p (W i)) n) := tcS_t g0 rfl rfl rfl ⟨i, hi, rfl⟩ hm
      have tb : (tcS W (g * p.1, g * p.2.1, g * p.2.2) (g * dot p (W i)) n).testBit i = true := (ht.2 i).mpr ⟨hi, hm⟩
      generalize tcS W (g * p.1, g * p.2.1, g * p.2.2) (g * dot p (W i)) n = t at *
      have t0 : t ≠ 0 := fun z => by rw [z, Nat.zero_testBit] at tb; cases tb
      have t1 := ht.1
      have p14 : 2 ^ n ≤ 2 ^ 14 := Nat.pow_le_pow_right (by decide) hn
      have es : sdS W n i j k s = ic (kno s p) s (tkS s p (dot p (W i))) := by unfold sdS; rw [sd1]
      rw [es] at h
      have s24 : ¬ kno s p → s.1 < 24 := fun nk => by
        have := (hF.tk sd2 nk ok).few hB
        have e2 : (tkS s p (dot p (W i))).1 = s.1 + 1 := rfl
        omega
      rw [i3_eq0 (by omega) (by omega)]
      refine ⟨fun z => by omega, fun _ => sp_isNew76 s hs1 hF hn sd2 t ht ⟨by omega, s24⟩ rfl ⟨fun y => ?_, fun y => ?_⟩⟩
      · rw [ibc_0, Classical.not_not] at y
        rw [ic_t y] at h
        exact h SI B1 FI.rf fJ hs1 hF
      · rw [ibc_0, Classical.not_not] at y
        rw [ic_f y] at h
        refine sp_noteC76 s hs1 hF.2.2 (s24 y) ok g1 g0 gN (by omega) ⟨v1, v2, v3, v4⟩ t ht rfl (fun A2 B2 l1 l2 l3 => ?_)
        exact h A2 B2 l1 (fJ.tr l2) l3 (hF.tk sd2 y ok)
  · rw [same (sdP_0 c)] at h
    exact h SI _ FI.rf (FJ.rf.w ⟨rfl, by decide, by decide⟩) (hs.p (fun k hk => w2_n (by omega))) hF
theorem sp_survey76 {Q : gj_I → gj_J → Prop} (hL : LB66 W O n SI SJ) (hP : PB66 W n SI SJ) (hn : n ≤ 14) (hB : Wb W n) (hE : 0 < (sdA W n).1) (h : ∀ SI' SJ', FI LIsd76 SI SI' → FJ LJsv76 SJ SJ' → RSc76 W n (sdA W n) SI' SJ' → FS W n (sdA W n) → SJ' 77 0 = i6 (lox (sdA W n).2.2.2 (sz3 (sdA W n).2.2.1)) → SJ' 77 1 = i6 (loy (sdA W n).2.2.2 (sz3 (sdA W n).2.2.1)) → Q SI' SJ') : DoV E 53 [(.ref 76), (.ref 66)] SI SJ Q := by
  refine st_53_76_66 SI SJ ?_
  let HR : Sds → gj_I → gj_J → Prop := fun s A B => FI LIsd76 SI A ∧ FJ LJsd76 SJ B ∧ RSc76 W n s A B ∧ FS W n s
  have lw : ∀ s A B, HR s A B → LB66 W O n A B := fun s A B g => hL.f g.1 g.2.1 (by unfold LIsd76; exact ⟨by omega, fun k => by omega⟩) (fun k => by unfold LJsd76; omega)
  have lp : ∀ s A B, HR s A B → PB66 W n A B := fun s A B g => CB66.f hP g.1 g.2.1 (fun k => by unfold LIsd76; omega) (fun k => by unfold LJsd76; omega)
  have l3 : ∀ (i j : Nat) (s : Sds) (A : gj_I) (B : gj_J), i < n → i < j → j < n → HR s A B → (∀ A' B', HR (sdJ W n i j s) A' B' → GoV E mt_53 19 [some (.ref 76), some (.ref 66), some (.int (i3 (i : Nat))), some (.int (i3 ((j + 1 : Nat) : Int))), none] A' B' Q) → GoV E mt_53 32 [some (.ref 76), some (.ref 66), some (.int (i3 (i : Nat))), some (.int (i3 (j : Nat))), some (.int (i3 ((j + 1 : Nat) : Int)))] A B Q := by
    intro i j s A B hi hij hj hH hc
    refine for_lp (f := sdS W n i j) (n := n) (R := fun k s A B => HR s A B ∧ j < k) (G := fun k s A B => GoV E mt_53 32 [some (.ref 76), some (.ref 66), some (.int (i3 (i : Nat))), some (.int (i3 (j : Nat))), some (.int (i3 (k : Nat)))] A B Q) ?_ (n - (j + 1)) (j + 1) s A B (by omega) ⟨hH, by omega⟩ ?_
    · rintro k s A B hk ⟨hH, hjk⟩ ih
      have hLA := lw _ _ _ hH
      have hPA := lp _ _ _ hH
      obtain ⟨g1, g2, g3, g4⟩ := hH
      refine lp_53_32_76_66 _ _ _ A B ⟨fun q => ?_, fun q => sp_consider76 i j k hij hjk hk hLA hPA hn hB s g3 g4 rfl rfl rfl (fun A2 B2 l1 l2 l3 l4 => ?_)⟩
      · rw [hLA.1, i3_le (by omega) (by omega) (by omega) (by omega)] at q; omega
      · rw [i3_add]
        exact ih A2 B2 ⟨⟨g1.tr l1, g2.tr l2, l3, l4⟩, by omega⟩
    · rintro A' B' ⟨hH', -⟩
      have hLA := lw _ _ _ hH'
      refine lp_53_32_76_66 _ _ _ A' B' ⟨fun _ => ?_, fun q => ?_⟩
      · rw [i3_add]
        exact hc A' B' hH'
      · rw [hLA.1, i3_le (by omega) (by omega) (by omega) (by omega)] at q; omega
  have l2 : ∀ (i : Nat) (s : Sds) (A : gj_I) (B : gj_J), i < n → HR s A B → (∀ A' B', HR (sdI W n i s) A' B' → GoV E mt_53 7 [some (.ref 76), some (.ref 66), some (.int (i3 ((i + 1 : Nat) : Int))), none, none] A' B' Q) → GoV E mt_53 19 [some (.ref 76), some (.ref 66), some (.int (i3 (i : Nat))), some (.int (i3 ((i + 1 : Nat) : Int))), none] A B Q := by
    intro i s A B hi hH hc
    refine for_lp (f := sdJ W n i) (n := n) (R := fun j s A B => HR s A B ∧ i < j) (G := fun j s A B => GoV E mt_53 19 [some (.ref 76), some (.ref 66), some (.int (i3 (i : Nat))), some (.int (i3 (j : Nat))), none] A B Q) ?_ (n - (i + 1)) (i + 1) s A B (by omega) ⟨hH, by omega⟩ ?_
    · rintro j s A B hj ⟨hH, hij⟩ ih
      have hLA := lw _ _ _ hH
      refine lp_53_19_76_66 _ _ A B ⟨fun q => ?_, fun q => ?_⟩
      · rw [hLA.1, i3_le (by omega) (by omega) (by omega) (by omega)] at q; omega
      · rw [i3_add]
        exact l3 i j s A B hi hij hj hH (fun A' B' hH' => ih A' B' ⟨hH', by omega⟩)
    · rintro A' B' ⟨hH', -⟩
      have hLA := lw _ _ _ hH'
      refine lp_53_19_76_66 _ _ A' B' ⟨fun _ => ?_, fun q => ?_⟩
      · rw [i3_add]
        exact hc A' B' hH'
      · rw [hLA.1, i3_le (by omega) (by omega) (by omega) (by omega)] at q; omega
  refine for_lp (f := sdI W n) (n := n) (R := fun i s A B => HR s A B) (G := fun i s A B => GoV E mt_53 7 [some (.ref 76), some (.ref 66), some (.int (i3 (i : Nat))), none, none] A B Q) ?_ n 0 (0, (fun _ => (0, 0, 0)), (0, 0, 0), 0) _ SJ (by omega) ⟨FI.rf.u (Or.inl ⟨rfl, rfl⟩), FJ.rf, ⟨u2_s, fun k hk => absurd hk (Nat.not_lt_zero k), fun hk => absurd hk (Nat.lt_irrefl 0)⟩, ⟨fun k hk => absurd hk (Nat.not_lt_zero k), fun a b _ hb => absurd hb (Nat.not_lt_zero b), fun k hk => absurd hk (Nat.not_lt_zero k), fun hk => absurd hk (Nat.lt_irrefl 0)⟩⟩ ?_
  · intro i s A B hi hH ih
    have hLA := lw _ _ _ hH
    refine lp_53_7_76_66 _ A B ⟨fun q => ?_, fun q => ?_⟩
    · rw [hLA.1, i3_le (by omega) (by omega) (by omega) (by omega)] at q; omega
    · rw [i3_add]
      exact l2 i s A B hi hH ih
  · intro A' B' hH'
    have hLA := lw _ _ _ hH'
    have hH2 : HR (sdA W n) A' B' := hH'
    obtain ⟨g1, g2, g3, g4⟩ := hH2
    clear hH'
    generalize sdA W n = s at *
    obtain ⟨t1, t2, t3, t4, t5⟩ := g3.2.2 hE
    obtain ⟨k1, k2, k3, k4⟩ := g4.2.2.2 hE
    have z1 := sz3_b k1
    have z2 := sz3_p k2
    refine lp_53_7_76_66 _ A' B' ⟨fun _ => sp_become77 s.2.2.2 (sz3 s.2.2.1) (by omega) (by omega) t4 t5 ?_, fun q => ?_⟩
    · refine h _ _ g1 (((g2.le (fun o k z => Or.inl z) : FJ LJsv76 SJ B').w (Or.inr rfl)).w (Or.inr rfl)) (g3.p (fun k hk => by rw [w2_n (by omega), w2_n (by omega)])) g4 (by rw [w2_n (by omega), w2_s]) (by rw [w2_s])
    · rw [hLA.1, i3_le (by omega) (by omega) (by omega) (by omega)] at q; omega
end Surv76
