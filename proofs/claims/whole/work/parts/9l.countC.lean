/-! 9l: finger, count, inside of the class -/
section Lies4
variable {E : gj_E} {SI : gj_I} {SJ : gj_J} {F : Nat → Int}
theorem sp_lies4 {Q : Int32 → gj_I → gj_J → Prop} {a b c : Int32} (hX : PX4 F SI) (hW : Wc F) (e : Nat) (he : e < nC F) (x y : Int) (hx : -20 ≤ x ∧ x ≤ 20) (hy : -20 ≤ y ∧ y ≤ 20) (ha : a = i3 e) (hb : b = i3 x) (hc : c = i3 y) (h : Q (ibc (btw F e x y)) SI SJ) : DoI E 40 [(.ref 4), (.int a), (.int b), (.int c)] SI SJ Q := by
  subst ha; subst hb; subst hc
  obtain ⟨n1, n2, n3⟩ := hW.n
  obtain ⟨y1, y2⟩ := hX.2 e he
  obtain ⟨z0, z1, z2⟩ := hX.xn hW e
  have b1 := hW.b e; have b2 := hW.b (e + 1)
  have sb := sd_b hW e (e + 1) (u := x) (v := y) (by omega) (by omega)
  refine st_40_4 _ _ _ SI SJ (sp_next4 hX.1 hW e he rfl ?_)
  rw [i3_in (by omega) (by omega), i3_in (by omega) (by omega), i3_n (by omega) (by omega), i3_n (by omega) (by omega), show ((e : Nat) : Int).toNat = e by omega, show ((nx F e : Nat) : Int).toNat = nx F e by omega, y1, y2, z1, z2, i3_sub, i3_sub, i3_sub, i3_sub]
  refine ⟨by omega, by omega, sp_turning _ _ _ _ rfl rfl rfl rfl ?_⟩
  have es : (cx F (e + 1) - cx F e) * (y - cy F e) - (cy F (e + 1) - cy F e) * (x - cx F e) = sd F e (e + 1) x y := rfl
  rw [es, y1, y2, z1, z2, i3_ifmin (by omega) (by omega) (by omega) (by omega), i3_ifmin (by omega) (by omega) (by omega) (by omega), i3_ifmax (by omega) (by omega) (by omega) (by omega), i3_ifmax (by omega) (by omega) (by omega) (by omega), i3_eq0 (by omega) (by omega)]
  have f0 : ¬ btw F e x y → Q (i3 0) SI SJ := fun z => by rw [ibc_f z] at h; exact h
  have f1 : btw F e x y → Q (i3 1) SI SJ := fun z => by rw [ibc_t z] at h; exact h
  have m1 : (if cx F (e + 1) < cx F e then cx F (e + 1) else cx F e) = min (cx F e) (cx F (e + 1)) := by split <;> omega
  have m2 : (if cx F e < cx F (e + 1) then cx F (e + 1) else cx F e) = max (cx F e) (cx F (e + 1)) := by split <;> omega
  have m3 : (if cy F (e + 1) < cy F e then cy F (e + 1) else cy F e) = min (cy F e) (cy F (e + 1)) := by split <;> omega
  have m4 : (if cy F e < cy F (e + 1) then cy F (e + 1) else cy F e) = max (cy F e) (cy F (e + 1)) := by split <;> omega
  rw [m1, m2, m3, m4, i3_lt (by omega) (by omega) (by omega) (by omega), i3_lt (by omega) (by omega) (by omega) (by omega), i3_lt (by omega) (by omega) (by omega) (by omega), i3_lt (by omega) (by omega) (by omega) (by omega)]
  clear h
  refine ⟨fun c1 => f0 (fun z => c1 z.1), fun c1 => ⟨fun c2 => f0 (fun z => ?_), fun c2 => ⟨fun c3 => f0 (fun z => ?_), fun c3 => ⟨fun c4 => f0 (fun z => ?_), fun c4 => ⟨fun c5 => f0 (fun z => ?_), fun c5 => f1 ⟨c1, ?_⟩⟩⟩⟩⟩⟩
  · have := z.2.1; omega
  · have := z.2.2.1; omega
  · have := z.2.2.2.1; omega
  · have := z.2.2.2.2; omega
  · omega
end Lies4
section Lies29
variable {E : gj_E} {SI : gj_I} {SJ : gj_J} {F : Nat → Int}
theorem sp_lies29 {Q : Int32 → gj_I → gj_J → Prop} {a b c : Int32} (hX : PX29 F SI) (hW : Wc F) (e : Nat) (he : e < nC F) (x y : Int) (hx : -20 ≤ x ∧ x ≤ 20) (hy : -20 ≤ y ∧ y ≤ 20) (ha : a = i3 e) (hb : b = i3 x) (hc : c = i3 y) (h : Q (ibc (btw F e x y)) SI SJ) : DoI E 40 [(.ref 29), (.int a), (.int b), (.int c)] SI SJ Q := by
  subst ha; subst hb; subst hc
  obtain ⟨n1, n2, n3⟩ := hW.n
  obtain ⟨y1, y2⟩ := hX.2 e he
  obtain ⟨z0, z1, z2⟩ := hX.xn hW e
  have b1 := hW.b e; have b2 := hW.b (e + 1)
  have sb := sd_b hW e (e + 1) (u := x) (v := y) (by omega) (by omega)
  refine st_40_29 _ _ _ SI SJ (sp_next29 hX.1 hW e he rfl ?_)
  rw [i3_in (by omega) (by omega), i3_in (by omega) (by omega), i3_n (by omega) (by omega), i3_n (by omega) (by omega), show ((e : Nat) : Int).toNat = e by omega, show ((nx F e : Nat) : Int).toNat = nx F e by omega, y1, y2, z1, z2, i3_sub, i3_sub, i3_sub, i3_sub]
  refine ⟨by omega, by omega, sp_turning _ _ _ _ rfl rfl rfl rfl ?_⟩
  have es : (cx F (e + 1) - cx F e) * (y - cy F e) - (cy F (e + 1) - cy F e) * (x - cx F e) = sd F e (e + 1) x y := rfl
  rw [es, y1, y2, z1, z2, i3_ifmin (by omega) (by omega) (by omega) (by omega), i3_ifmin (by omega) (by omega) (by omega) (by omega), i3_ifmax (by omega) (by omega) (by omega) (by omega), i3_ifmax (by omega) (by omega) (by omega) (by omega), i3_eq0 (by omega) (by omega)]
  have f0 : ¬ btw F e x y → Q (i3 0) SI SJ := fun z => by rw [ibc_f z] at h; exact h
  have f1 : btw F e x y → Q (i3 1) SI SJ := fun z => by rw [ibc_t z] at h; exact h
  have m1 : (if cx F (e + 1) < cx F e then cx F (e + 1) else cx F e) = min (cx F e) (cx F (e + 1)) := by split <;> omega
  have m2 : (if cx F e < cx F (e + 1) then cx F (e + 1) else cx F e) = max (cx F e) (cx F (e + 1)) := by split <;> omega
  have m3 : (if cy F (e + 1) < cy F e then cy F (e + 1) else cy F e) = min (cy F e) (cy F (e + 1)) := by split <;> omega
  have m4 : (if cy F e < cy F (e + 1) then cy F (e + 1) else cy F e) = max (cy F e) (cy F (e + 1)) := by split <;> omega
  rw [m1, m2, m3, m4, i3_lt (by omega) (by omega) (by omega) (by omega), i3_lt (by omega) (by omega) (by omega) (by omega), i3_lt (by omega) (by omega) (by omega) (by omega), i3_lt (by omega) (by omega) (by omega) (by omega)]
  clear h
  refine ⟨fun c1 => f0 (fun z => c1 z.1), fun c1 => ⟨fun c2 => f0 (fun z => ?_), fun c2 => ⟨fun c3 => f0 (fun z => ?_), fun c3 => ⟨fun c4 => f0 (fun z => ?_), fun c4 => ⟨fun c5 => f0 (fun z => ?_), fun c5 => f1 ⟨c1, ?_⟩⟩⟩⟩⟩⟩
  · have := z.2.1; omega
  · have := z.2.2.1; omega
  · have := z.2.2.2.1; omega
  · have := z.2.2.2.2; omega
  · omega
end Lies29
section CountC
variable {E : gj_E} {SI : gj_I} {SJ : gj_J} {F : Nat → Int}
theorem sp_whereIs {Q : Int32 → gj_I → gj_J → Prop} {a b : Int32} (hX : PX4 F SI) (hW : Wc F) (x y : Int) (hx : -20 ≤ x ∧ x ≤ 20) (hy : -20 ≤ y ∧ y ≤ 20) (ha : a = i3 x) (hb : b = i3 y) (h : Q (i3 (insideA F x y)) SI SJ) : DoI E 43 [(.ref 4), (.int a), (.int b)] SI SJ Q := by
  subst ha; subst hb
  obtain ⟨n1, n2, n3⟩ := hW.n
  have e : insideA F x y = ic (∃ e, e < nC F ∧ btw F e x y) 2 (if wdn F x y (nC F) = 0 then 0 else 1) := if_pos ⟨hx, hy⟩
  rw [e] at h
  refine st_43 _ _ SI SJ ?_
  refine up_lp (α := Unit) (P := fun i _ A B => A = SI ∧ B = SJ ∧ ∀ e, e < i → ¬ btw F e x y) (G := fun i _ A B => GoI E mt_43 5 [some (.ref 4), some (.int (i3 x)), some (.int (i3 y)), some (.int (i3 (wdn F x y i))), some (.int (i3 i)), none, none] A B Q) (nC F) ?_ ?_ 0 () SI SJ (by omega) ⟨rfl, rfl, fun e he => by omega⟩
  · rintro _ A B ⟨rfl, rfl, hz⟩
    rw [ic_f (fun ⟨e, e1, e2⟩ => hz e e1 e2)] at h
    have wb := wdn_b F x y (nC F)
    refine lp_43_5 _ _ _ _ A B ⟨fun _ => ?_, fun c => ?_⟩
    · rw [i3_eq0 (by omega) (by omega)]
      refine ⟨fun c => ?_, fun c => ?_⟩
      · rw [if_neg c] at h; exact h
      · rw [if_pos c] at h; exact h
    · rw [hX.1, n3, i3_le (by omega) (by omega) (by omega) (by omega)] at c; omega
  · rintro i _ A B hi ⟨rfl, rfl, hz⟩ ih
    refine lp_43_5 _ _ _ _ A B ⟨fun c => ?_, fun c => sp_lies4 hX hW i hi x y hx hy rfl rfl rfl ⟨fun d => ?_, fun d => ?_⟩⟩
    · rw [hX.1, n3, i3_le (by omega) (by omega) (by omega) (by omega)] at c; omega
    · rw [ibc_0] at d
      have nq := ih () A B ⟨rfl, rfl, fun e he => by
        by_cases q : e = i
        · rw [q]; exact d
        · exact hz e (by omega)⟩
      have ew : wdn F x y (i + 1) = wdn F x y i + (if cy F i ≤ y ∧ ¬ cy F (i + 1) ≤ y ∧ 0 < sd F i (i + 1) x y then 1 else if ¬ cy F i ≤ y ∧ cy F (i + 1) ≤ y ∧ sd F i (i + 1) x y < 0 then -1 else 0) := rfl
      rw [ew] at nq
      have b1 := hW.b i; have b2 := hW.b (i + 1)
      have sb := sd_b hW i (i + 1) (u := x) (v := y) (by omega) (by omega)
      have wb := wdn_b F x y i
      obtain ⟨P, hP⟩ : ∃ P : Int → Prop, ∀ v, P v = GoI E mt_43 5 [some (.ref 4), some (.int (i3 x)), some (.int (i3 y)), some (.int (i3 v)), some (.int (i3 ((i : Int) + 1))), none, none] A B Q := ⟨_, fun _ => rfl⟩
      have v0 : (¬ (cy F i ≤ y ∧ ¬ cy F (i + 1) ≤ y ∧ 0 < sd F i (i + 1) x y)) → (¬ (¬ cy F i ≤ y ∧ cy F (i + 1) ≤ y ∧ sd F i (i + 1) x y < 0)) → P (wdn F x y i) := by
        intro k1 k2
        rw [hP]
        rw [if_neg k1, if_neg k2, Int.add_zero] at nq; exact nq
      have v1 : (cy F i ≤ y ∧ ¬ cy F (i + 1) ≤ y ∧ 0 < sd F i (i + 1) x y) → P (wdn F x y i + 1) := by
        intro k1
        rw [hP]
        rw [if_pos k1] at nq; exact nq
      have v2 : (¬ cy F i ≤ y ∧ cy F (i + 1) ≤ y ∧ sd F i (i + 1) x y < 0) → P (wdn F x y i + -1) := by
        intro k1
        rw [hP]
        rw [if_neg (fun z => k1.1 z.1), if_pos k1] at nq; exact nq
      obtain ⟨y1, y2⟩ := hX.2 i hi
      obtain ⟨z0, z1, z2⟩ := hX.xn hW i
      refine sp_next4 hX.1 hW i hi rfl ?_
      rw [i3_in (by omega) (by omega), i3_in (by omega) (by omega), i3_n (by omega) (by omega), i3_n (by omega) (by omega), show ((i : Nat) : Int).toNat = i by omega, show ((nx F i : Nat) : Int).toNat = nx F i by omega, y1, y2, z1, z2, i3_sub, i3_sub, i3_sub, i3_sub]
      refine ⟨by omega, by omega, sp_turning _ _ _ _ rfl rfl rfl rfl ?_⟩
      have es : (cx F (i + 1) - cx F i) * (y - cy F i) - (cy F (i + 1) - cy F i) * (x - cx F i) = sd F i (i + 1) x y := rfl
      rw [es, y2, z2, i3_add, i3_add, i3_add, i3_lt (by omega) (by omega) (by omega) (by omega), i3_lt (by omega) (by omega) (by omega) (by omega), i3_le (by omega) (by omega) (by omega) (by omega), i3_le (by omega) (by omega) (by omega) (by omega), i3_le0 (by omega) (by omega), i3_0le (by omega) (by omega)]
      simp only [← hP]
      clear ih nq h hP
      repeat' (first | refine And.intro ?_ ?_ | intro _)
      all_goals first
        | exact v0 (by omega) (by omega)
        | exact v1 (by omega)
        | exact v2 (by omega)
        | (exfalso; omega)
    · rw [ibc_0, Classical.not_not] at d
      rw [ic_t ⟨i, hi, d⟩] at h; exact h
theorem sp_insideC {Q : Int32 → gj_I → gj_J → Prop} {a b : Int32} (hX : PX4 F SI) (hW : Wc F) (x y : Int) (xr : -2147483648 ≤ x ∧ x < 2147483648) (yr : -2147483648 ≤ y ∧ y < 2147483648) (ha : a = i3 x) (hb : b = i3 y) (h : Q (i3 (insideA F x y)) SI SJ) : DoI E 119 [(.ref 0), (.int a), (.int b)] SI SJ Q := by
  subst ha; subst hb
  have bad : ¬ ((-20 ≤ x ∧ x ≤ 20) ∧ -20 ≤ y ∧ y ≤ 20) → Q (i3 (-1)) SI SJ := fun z => by
    have e : insideA F x y = -1 := if_neg z
    rw [e] at h; exact h
  refine st_119 _ _ SI SJ ?_
  have m1 : (if x < y then y else x) = max x y := by split <;> omega
  have m2 : (if y < x then y else x) = min x y := by split <;> omega
  rw [i3_ifmax (by omega) (by omega) (by omega) (by omega), i3_ifmin (by omega) (by omega) (by omega) (by omega), m1, m2, i3_lt (by omega) (by omega) (by omega) (by omega), i3_le (by omega) (by omega) (by omega) (by omega)]
  refine ⟨fun c => bad (by omega), fun c => ⟨fun d => ?_, fun d => bad (by omega)⟩⟩
  exact sp_whereIs hX hW x y (by omega) (by omega) rfl rfl h
theorem sp_fingerC {Q : Int32 → gj_I → gj_J → Prop} {a b : Int32} (hC : CNT F SI SJ) (hF : WF F) (i w : Int) (ir : -2147483648 ≤ i ∧ i < 2147483648) (wr : -2147483648 ≤ w ∧ w < 2147483648) (ha : a = i3 i) (hb : b = i3 w) (h : Q (i3 (fingerA F i w)) SI SJ) : DoI E 124 [(.ref 0), (.int a), (.int b)] SI SJ Q := by
  subst ha; subst hb
  obtain ⟨⟨hX, hD, hf, -, -⟩, hg, -⟩ := hC
  have hW := hF.1
  have hT := hF.2.1
  have hN := hF.2.2.1
  obtain ⟨m1, m2, m3⟩ := hW.1.n
  have n0 := hN.1; have n1 := hN.2.1
  have bad : ¬ (0 ≤ i ∧ i < F 17) → Q (i3 (-1)) SI SJ := fun z => by
    have e : fingerA F i w = -1 := by unfold fingerA; rw [if_neg z]
    rw [e] at h; exact h
  refine st_124 _ _ SI SJ ?_
  rw [hf.1, i3_lt0 (by omega) (by omega), i3_lt (by omega) (by omega) (by omega) (by omega)]
  refine ⟨fun c => bad (by omega), fun c => ⟨fun d => ?_, fun d => bad (by omega)⟩⟩
  obtain ⟨n, hn⟩ : ∃ n : Nat, i = n := ⟨i.toNat, by omega⟩
  subst hn
  have hA : fingerA F n w = (if w = 0 then F (18 + n) else if w = 1 then F (24 + n) else if w = 2 then px F (F (18 + n)).toNat (F (24 + n)) else if w = 3 then py F (F (18 + n)).toNat (F (24 + n)) else if w = 4 then (if F 30 = 0 then 1 else 2) else if w = 5 then bz (firmS F (wo (fullS (nf F)) (2 ^ n))) else -1) := by
    unfold fingerA; rw [if_pos ⟨by omega, d⟩]; rfl
  rw [hA] at h
  obtain ⟨e1, e2, e3, e4⟩ := hN.2.2 n d
  have t1 := hT.1; have t2 := hT.2.1
  have fl := fullS_lt hN
  obtain ⟨s1, s2⟩ := hf.2.1 n d
  rw [i3_in (by omega) (by omega), i3_n (by omega) (by omega), show ((n : Nat) : Int).toNat = n by omega, s1, s2, i3_t (by omega) (by omega)]
  refine ⟨by omega, fun y => ?_, fun y => ?_, fun y => ?_, fun y => ?_, fun y => ?_, fun y => ?_, fun y => ?_⟩
  · rw [i3_eq (by omega) (by omega) (by omega) (by omega)] at y; rw [if_pos y] at h; exact h
  · rw [i3_eq (by omega) (by omega) (by omega) (by omega)] at y; rw [if_neg (by omega), if_pos y] at h; exact h
  · rw [i3_eq (by omega) (by omega) (by omega) (by omega)] at y; rw [if_neg (by omega), if_neg (by omega), if_pos y] at h
    exact sp_stepX hX hD hW.1 (F (18 + n)).toNat (F (24 + n)) (by omega) (i3_c (by omega)) rfl h
  · rw [i3_eq (by omega) (by omega) (by omega) (by omega)] at y; rw [if_neg (by omega), if_neg (by omega), if_neg (by omega), if_pos y] at h
    exact sp_stepY hX hD hW.1 (F (18 + n)).toNat (F (24 + n)) (by omega) (i3_c (by omega)) rfl h
  · rw [i3_eq (by omega) (by omega) (by omega) (by omega)] at y; rw [if_neg (by omega), if_neg (by omega), if_neg (by omega), if_neg (by omega), if_pos y] at h
    refine st_64 SI SJ ?_
    rw [hf.2.2.1, i3_eq0 (by omega) (by omega)]
    refine ⟨fun x => ?_, fun x => ?_⟩
    · rw [if_neg x] at h; exact h
    · rw [if_pos x] at h; exact h
  · rw [i3_eq (by omega) (by omega) (by omega) (by omega)] at y; rw [if_neg (by omega), if_neg (by omega), if_neg (by omega), if_neg (by omega), if_neg (by omega), if_pos y] at h
    refine sp_allC hf.1 hN ?_
    rw [i3_shl (by omega), i3_wo]
    have wl1 := wo_le (a := fullS (nf F)) (b := 2 ^ n)
    exact sp_firmByC hg hF (wo (fullS (nf F)) (2 ^ n)) (by omega) rfl (sp_bit _ rfl h)
  · rw [if_neg (by omega), if_neg (by omega), if_neg (by omega), if_neg (by omega), if_neg (by omega), if_neg (by omega)] at h; exact h
theorem sp_countC {Q : Int32 → gj_I → gj_J → Prop} {a : Int32} (hC : CNT F SI SJ) (hF : WF F) (tp : Int) (ht : SI 1 1 = i3 tp) (w : Int) (wr : -2147483648 ≤ w ∧ w < 2147483648) (ha : a = i3 w) (h : Q (i3 (countA F tp w)) SI SJ) : DoI E 115 [(.ref 0), (.int a)] SI SJ Q := by
  subst ha
  have hC2 := hC
  obtain ⟨hN3, hg, -⟩ := hC2
  have hN4 := hN3
  obtain ⟨hX, hD, hf, -, hx⟩ := hN4
  have hN := hF.2.2.1
  have lb := lsM_b F (nf F) 1
  have fl := fullS_lt hN
  obtain ⟨pe1, pe2⟩ := pn_e hF.1
  have hg2 := hg
  obtain ⟨g1, g2, g3, g4⟩ := hg2
  have cA : ∀ v, countA F tp w = v → Q (i3 v) SI SJ := fun v e => by rw [e] at h; exact h
  clear h
  have e11 : firmF F → neededA F = ndS F (nf F) := fun z => if_pos z
  have n11 : ¬ firmF F → neededA F = -2 := fun z => if_neg z
  have e12 : firmF F → leastA F = lsM F 1 (nf F) := fun z => if_pos z
  have n12 : ¬ firmF F → leastA F = -2 := fun z => if_neg z
  unfold countA at cA
  refine st_115 _ SI SJ ?_
  rw [i3_t (by omega) (by omega), hf.1, hX.1, hD.2.1, g1.1, g3, g4, hf.2.2.1, hf.2.2.2.1, hf.2.2.2.2.1, hf.2.2.2.2.2, hx.1, ht]
  refine ⟨fun q => ?_, fun q => ?_, fun q => ?_, fun q => ?_, fun q => ?_, fun q => ?_, fun q => ?_, fun q => ?_, fun q => ?_, fun q => ?_, fun q => ?_, fun q => ?_, fun q => ?_, fun q => ?_, fun q => ?_, fun q => ?_, fun q => ?_, fun q => ?_⟩
  all_goals try rw [i3_eq (by omega) (by omega) (by omega) (by omega)] at q
  · exact cA _ (by rw [if_pos q])
  · exact sp_twiceArea4 hX hF.1.1 (cA _ (by rw [q]; rfl))
  · exact cA _ (by rw [q]; rfl)
  · exact cA _ (by rw [q]; rfl)
  · exact cA _ (by rw [q]; rfl)
  · exact sp_bit _ rfl (cA _ (by rw [q]; rfl))
  · exact cA _ (by rw [q]; show pl F (nC F) = _; omega)
  · exact cA _ (by rw [q]; rfl)
  · exact cA _ (by rw [q]; rfl)
  · exact cA _ (by rw [q]; rfl)
  · exact cA _ (by rw [q]; rfl)
  · refine ⟨fun c => ?_, fun c => ?_⟩
    · rw [ibc_0] at c
      exact cA _ (by rw [q]; show neededA F = _; exact n11 c)
    · rw [ibc_0, Classical.not_not] at c
      exact sp_neededC hf.1 hg hF (cA _ (by rw [q]; show neededA F = _; exact e11 c))
  · refine ⟨fun c => ?_, fun c => ?_⟩
    · rw [ibc_0] at c
      exact cA _ (by rw [q]; show (if leastA F < 0 then (-2 : Int) else (pct (leastA F).toNat : Int)) = _; rw [n12 c]; rfl)
    · rw [ibc_0, Classical.not_not] at c
      have ne := lsM_firm hN c
      refine sp_leastC hf.1 hg hF c (sp_bitCount (lsM F 1 (nf F)).toNat (by omega) (i3_c (by omega)) ?_)
      exact cA _ (by rw [q]; show (if leastA F < 0 then (-2 : Int) else (pct (leastA F).toNat : Int)) = _; rw [e12 c, if_neg (by omega)])
  · refine ⟨fun c => ?_, fun c => ?_⟩
    · rw [ibc_0] at c
      exact cA _ (by rw [q]; show leastA F = _; exact n12 c)
    · rw [ibc_0, Classical.not_not] at c
      exact sp_leastC hf.1 hg hF c (cA _ (by rw [q]; show leastA F = _; exact e12 c))
  · exact cA _ (by rw [q]; rfl)
  · exact cA _ (by rw [q]; rfl)
  · exact sp_oppCouples hN3 hF (cA _ (by rw [q]; rfl))
  · exact cA _ (by repeat' rw [if_neg (by omega)])
end CountC
