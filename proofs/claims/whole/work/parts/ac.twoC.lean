/-! ac: two of the class -/
theorem tkS_w {s : Sds} {p : V3} {o : Int} (h : WSd s) (ok : okS p o) : WSd (tkS s p o) := by
  obtain ⟨h3, h4⟩ := h
  refine ⟨fun l hl => ?_, fun _ => ?_⟩
  · have hl2 : l < s.1 + 1 := hl
    show Pc (if l = s.1 then p else s.2.1 l)
    split
    · exact ok.1
    · exact h3 l (by omega)
  · show okS (ic (s.1 = 0 ∨ wkr p o s.2.2.1 s.2.2.2) p s.2.2.1) (ic (s.1 = 0 ∨ wkr p o s.2.2.1 s.2.2.2) o s.2.2.2)
    by_cases q : s.1 = 0 ∨ wkr p o s.2.2.1 s.2.2.2
    · rw [ic_t q, ic_t q]; exact ok
    · rw [ic_f q, ic_f q]; exact h4 (by omega)
theorem WSd_all {W : Nat → V3} {n : Nat} (hn : n ≤ 14) (hB : Wb W n) : WSd (sdA W n) := by
  have key := forN_I (f := sdI W n) (P := fun _ s => WSd s) n 0 (0, (fun _ => (0, 0, 0)), (0, 0, 0), 0) (fun i s h1 h2 hI => ?_) ⟨fun k hk => absurd hk (Nat.not_lt_zero k), fun hk => absurd hk (Nat.lt_irrefl 0)⟩
  · exact key
  · have k2 := forN_I (f := sdJ W n i) (P := fun _ s => WSd s) (n - (i + 1)) (i + 1) s (fun j s h3 h4 hI2 => ?_) hI
    · exact k2
    · have k3 := forN_I (f := sdS W n i j) (P := fun _ s => WSd s) (n - (j + 1)) (j + 1) s (fun k s h5 h6 hI3 => ?_) hI2
      · exact k3
      · show WSd (sdS W n i j k s)
        unfold sdS
        cases hp : sdP W n i j k with
        | none => exact hI3
        | some p =>
          dsimp only
          by_cases q : kno s p
          · rw [ic_t q]; exact hI3
          · rw [ic_f q]; exact tkS_w hI3 (sdP_ok hB (by omega) (by omega) (by omega) hp)
section TwoC
variable {E : gj_E} {SI : gj_I} {SJ : gj_J} {F : Nat → Int}
theorem sp_coupleC {Q : Int32 → gj_I → gj_J → Prop} {a b : Int32} (hC : NS3 F SI) (hF : WF F) (p q : Nat) (hp : p < pn F) (hq : q < pn F) (ha : a = i3 p) (hb : b = i3 q) (h : ∀ SI' SJ', FI LI66 SI SI' → FJ LJ66 SJ SJ' → LB66 (Wl F (ctT F p q)) (fun j => (fun t : Nat => (t : Int)) (j / fc F)) (2 * fc F) SI' SJ' → PB66 (Wl F (ctT F p q)) (2 * fc F) SI' SJ' → Q (ibc (firm (Wl F (ctT F p q)) (2 * fc F) (fullS (2 * fc F)))) SI' SJ') : DoI E 86 [(.ref 65), (.ref 3), (.int a), (.int b)] SI SJ Q := by
  subst ha; subst hb
  obtain ⟨hX, hD, ⟨f5, fe, f6, f7, f8, f9⟩, -, -⟩ := hC
  obtain ⟨hW, hT, hN, -, -, -⟩ := hF
  obtain ⟨pe1, pe2⟩ := pn_e hW
  have i0 : 0 ≤ (p : Int) := by omega
  have i1 : (p : Int) < pl F (nC F) := by omega
  have j0 : 0 ≤ (q : Int) := by omega
  have j1 : (q : Int) < pl F (nC F) := by omega
  obtain ⟨p1, p2, p3⟩ := pe_s i0 i1
  have pb := ps_b i0 i1
  obtain ⟨q1, q2, q3⟩ := pe_s j0 j1
  have qb := ps_b j0 j1
  have fb := fc_b F
  have n14 : 2 * fc F ≤ 14 := by omega
  have e0 : ctT F p q 0 = ctP F p := if_pos rfl
  have e1 : ctT F p q 1 = ctP F q := if_neg (by decide)
  have hB : Wb (Wl F (ctT F p q)) (2 * fc F) := Wl_b hW hT (fun t ht => by
    unfold ctT
    split
    · exact ctP_ok i0 i1
    · exact ctP_ok j0 j1)
  refine st_86 _ _ SI SJ (sp_clear66 ?_)
  have g1 : FI LIa66 SI (gj_u2 SI 66 9 (i3 0)) := FI.rf.u (Or.inr ⟨rfl, rfl⟩)
  have hL0 : LB66 (Wl F (ctT F p q)) (fun j => (fun t : Nat => (t : Int)) (j / fc F)) (0 * fc F) (gj_u2 SI 66 9 (i3 0)) SJ := ⟨by rw [u2_s, Nat.zero_mul]; rfl, fun j hj => by rw [Nat.zero_mul] at hj; exact absurd hj (Nat.not_lt_zero j)⟩
  generalize gj_u2 SI 66 9 (i3 0) = A at *
  have fc1 : ∀ A, FI LIa66 SI A → PX4 F A ∧ PD4 F A ∧ A 3 6 = i3 (F 30) ∧ A 3 7 = i3 (F 31) ∧ A 3 8 = i3 (F 32) ∧ A 3 9 = i3 (F 33) := by
    intro A g
    have ga : ∀ o k, ¬ LIa66 o k → A o k = SI o k := g
    exact ⟨hX.f g (by unfold LIa66; exact ⟨by omega, fun k => by omega⟩), hD.f g (by unfold LIa66; exact ⟨by omega, fun k => by omega⟩), by rw [ga 3 6 (by unfold LIa66; omega)]; exact f6, by rw [ga 3 7 (by unfold LIa66; omega)]; exact f7, by rw [ga 3 8 (by unfold LIa66; omega)]; exact f8, by rw [ga 3 9 (by unfold LIa66; omega)]; exact f9⟩
  obtain ⟨hXA, hDA, a6, a7, a8, a9⟩ := fc1 A g1
  obtain ⟨d1, d2⟩ := hDA.2.2 p hp
  rw [i3_in (by omega) (by omega), i3_n (by omega) (by omega), show ((p : Nat) : Int).toNat = p by omega, d1, d2, a6, a7]
  refine ⟨by omega, sp_press66 (ct := ctT F p q) (O := fun t : Nat => (t : Int)) hXA hDA hW hT a8 a9 0 (by rw [e0]; exact p1) (by rw [e0]; exact pb) (by omega) hL0 rfl (by rw [e0]; rfl) (by rw [e0]; rfl) rfl rfl (fun A2 B2 k1 k2 k3 => ?_)⟩
  obtain ⟨hXA2, hDA2, b6, b7, b8, b9⟩ := fc1 A2 (g1.tr k1)
  obtain ⟨d3, d4⟩ := hDA2.2.2 q hq
  rw [i3_in (by omega) (by omega), i3_n (by omega) (by omega), show ((q : Nat) : Int).toNat = q by omega, d3, d4, b6, b7]
  refine ⟨by omega, sp_press66 (ct := ctT F p q) (O := fun t : Nat => (t : Int)) hXA2 hDA2 hW hT b8 b9 1 (by rw [e1]; exact q1) (by rw [e1]; exact qb) (by omega) k3 rfl (by rw [e1]; rfl) (by rw [e1]; rfl) rfl rfl (fun A3 B3 l1 l2 l3 => ?_)⟩
  have l3' : LB66 (Wl F (ctT F p q)) (fun j => (fun t : Nat => (t : Int)) (j / fc F)) (2 * fc F) A3 B3 := l3
  exact sp_firmW66 l3' n14 hB (fun A4 B4 m1 m2 m3 m4 => ⟨ibc_01, h A4 B4 ((ia66 ((g1.tr k1).tr l1)).tr (ib66 m1)) ((ja66 (k2.tr l2)).tr (jb66 m2)) m3 m4⟩)
def LItw (o k : Nat) : Prop := LI66 o k ∨ LIsd76 o k ∨ (o = 65 ∧ (k = 5 ∨ k = 7 ∨ k = 8 ∨ k = 9))
def LJtw (o k : Nat) : Prop := LJ66 o k ∨ LJsv76 o k ∨ o = 80
theorem LItw_no {o k : Nat} : LItw o k → (o = 70 ∨ o = 74 ∨ o = 75 ∨ (o = 66 ∧ k = 9) ∨ (o = 76 ∧ k = 2) ∨ o = 78 ∨ (o = 65 ∧ (k = 5 ∨ k = 7 ∨ k = 8 ∨ k = 9))) := by
  unfold LItw LI66 LIsd76; omega
theorem LJtw_no {o k : Nat} : LJtw o k → 67 ≤ o ∧ o ≤ 80 ∧ o ≠ 79 := by
  unfold LJtw LJ66 LJsv76 LJsd76; omega
/-- what the class has of the couples seen -/
def RT5 (a : T5) (SI : gj_I) (SJ : gj_J) : Prop := SI 65 5 = i3 1 ∧ SI 65 7 = i3 a.1 ∧ (a.1 ≠ 0 → SI 65 8 = i3 a.2.1 ∧ SI 65 9 = i3 a.2.2.1 ∧ SJ 80 0 = i6 a.2.2.2.1 ∧ SJ 80 1 = i6 a.2.2.2.2)
def okT2 (a : T5) (m : Nat) : Prop := (0 ≤ a.1 ∧ a.1 ≤ m) ∧ ((a.1 = 0 ∧ a.2.1 = -2 ∧ a.2.2.1 = -2 ∧ a.2.2.2.1 = -2 ∧ a.2.2.2.2 = -2) ∨ (0 < a.1 ∧ (0 ≤ a.2.1 ∧ a.2.1 < 100) ∧ (0 ≤ a.2.2.1 ∧ a.2.2.1 < 100) ∧ 0 < a.2.2.2.2 ∧ a.2.2.2.2 ≤ 1230000 ∧ 0 ≤ a.2.2.2.1 ∧ a.2.2.2.1 ≤ 110000000))
theorem sp_noteCo {Q : gj_I → gj_J → Prop} {a b : Int32} {W : Nat → V3} {O : Nat → Int} {n : Nat} (hL : LB66 W O n SI SJ) (hP : PB66 W n SI SJ) (hn : n ≤ 14) (hB : Wb W n) (hE : 0 < (sdA W n).1) (p q m : Nat) (hp : p < 100) (hq : q < 100) (hm : m ≤ 10000) (t : T5) (ht : RT5 t SI SJ) (hok : okT2 t m) (ha : a = i3 p) (hb : b = i3 q) (h : ∀ SI' SJ', FI LItw SI SI' → FJ LJtw SJ SJ' → RT5 (ic (betr t.2.1 t.2.2.2 (wkU W n) (wkL W n)) (t.1 + 1, (p : Int), (q : Int), wkU W n, wkL W n) (t.1 + 1, t.2)) SI' SJ' → okT2 (ic (betr t.2.1 t.2.2.2 (wkU W n) (wkL W n)) (t.1 + 1, (p : Int), (q : Int), wkU W n, wkL W n) (t.1 + 1, t.2)) (m + 1) → Q SI' SJ') : DoV E 87 [(.ref 65), (.int a), (.int b)] SI SJ Q := by
  subst ha; subst hb
  obtain ⟨c, x, y, u, l⟩ := t
  unfold okT2 at hok
  obtain ⟨r5, r7, r8⟩ := ht
  dsimp only at hok r7 r8 h
  refine st_87 _ _ SI SJ (sp_survey76 hL hP hn hB hE (fun A B l1 l2 l3 l4 l5 l6 => ?_))
  have wb := wk_b l4.2.2 hE
  have ll := lo_lo (u := (sdA W n).2.2.2) (l := sz3 (sdA W n).2.2.1) (sz3_p (l4.2.2.2 hE).2.1)
  have eU : lox (sdA W n).2.2.2 (sz3 (sdA W n).2.2.1) = wkU W n := rfl
  have eL : loy (sdA W n).2.2.2 (sz3 (sdA W n).2.2.1) = wkL W n := rfl
  rw [eU, eL] at wb
  rw [eU, eL] at ll
  rw [eU] at l5
  rw [eL] at l6
  have f1 : FI LItw SI A := l1.le (fun o k z => Or.inr (Or.inl z))
  have f2 : FJ LJtw SJ B := l2.le (fun o k z => Or.inr (Or.inl z))
  have a5 : A 65 5 = i3 1 := by rw [l1 65 5 (by unfold LIsd76; omega)]; exact r5
  have a7 : A 65 7 = i3 c := by rw [l1 65 7 (by unfold LIsd76; omega)]; exact r7
  have go : betr x (u, l) (wkU W n) (wkL W n) → DoV E 14 [(.ref 80), (.long (B 77 0)), (.long (B 77 1))] (gj_u2 (gj_u2 A 65 8 (i3 (p : Nat))) 65 9 (i3 (q : Nat))) B (fun SI4 SJ4 => Q (gj_u2 SI4 65 7 ((SI4 65 7) + (i3 1))) SJ4) := by
    intro hbt
    rw [ic_t hbt] at h
    refine sp_become80 (wkU W n) (wkL W n) (by omega) (by omega) l5 l6 ?_
    have e7 : (gj_u2 (gj_u2 A 65 8 (i3 (p : Nat))) 65 9 (i3 (q : Nat))) 65 7 = i3 c := by rw [u2_n (by omega), u2_n (by omega)]; exact a7
    rw [ll.1, ll.2, e7, i3_add]
    refine h _ _ (((f1.u (Or.inr (Or.inr ⟨rfl, by omega⟩))).u (Or.inr (Or.inr ⟨rfl, by omega⟩))).u (Or.inr (Or.inr ⟨rfl, by omega⟩))) ((f2.w (Or.inr (Or.inr rfl))).w (Or.inr (Or.inr rfl))) ⟨?_, u2_s, fun _ => ⟨?_, ?_, ?_, ?_⟩⟩ ?_
    · rw [u2_n (by omega), u2_n (by omega), u2_n (by omega)]; exact a5
    · rw [u2_n (by omega), u2_n (by omega), u2_s]
    · rw [u2_n (by omega), u2_s]
    · rw [w2_n (by omega), w2_s]
    · rw [w2_s]
    · unfold okT2; dsimp only
      exact ⟨by omega, Or.inr (by omega)⟩
  have st : ¬ betr x (u, l) (wkU W n) (wkL W n) → c ≠ 0 → Q (gj_u2 A 65 7 ((A 65 7) + (i3 1))) B := by
    intro hbt hc
    rw [ic_f hbt] at h
    obtain ⟨r81, r82, r83, r84⟩ := r8 hc
    rw [a7, i3_add]
    refine h _ _ (f1.u (Or.inr (Or.inr ⟨rfl, by omega⟩))) f2 ⟨?_, u2_s, fun _ => ⟨?_, ?_, ?_, ?_⟩⟩ ?_
    · rw [u2_n (by omega)]; exact a5
    · rw [u2_n (by omega), l1 65 8 (by unfold LIsd76; omega)]; exact r81
    · rw [u2_n (by omega), l1 65 9 (by unfold LIsd76; omega)]; exact r82
    · rw [l2 80 0 (by unfold LJsv76 LJsd76; omega)]; exact r83
    · rw [l2 80 1 (by unfold LJsv76 LJsd76; omega)]; exact r84
    · unfold okT2; dsimp only
      exact ⟨by omega, Or.inr (by omega)⟩
  rw [a7, i3_eq0 (by omega) (by omega)]
  rw [a7] at st
  refine ⟨fun z => go (Or.inl (by omega)), fun z => ?_⟩
  obtain ⟨r81, r82, r83, r84⟩ := r8 z
  refine sp_stronger80 (x := u) (y := l) (u := wkU W n) (l := wkL W n) (by omega) (by omega) (by omega) (by omega) l5 l6 (by rw [l2 80 0 (by unfold LJsv76 LJsd76; omega)]; exact r83) (by rw [l2 80 1 (by unfold LJsv76 LJsd76; omega)]; exact r84) ⟨fun q5 => ?_, fun q5 => ?_⟩
  · rw [ibc_0] at q5
    rw [a7]
    exact st (fun y => by rcases y with y | y; omega; exact q5 y) z
  · rw [ibc_0, Classical.not_not] at q5
    exact go (Or.inr q5)
theorem sp_seekTwoC {Q : gj_I → gj_J → Prop} (hC : CNT F SI SJ) (hF : WF F) (h : ∀ SI' SJ', FI LItw SI SI' → FJ LJtw SJ SJ' → RT5 (twA F) SI' SJ' → okT2 (twA F) 4096 → Q SI' SJ') : DoV E 85 [(.ref 65), (.ref 3)] SI SJ Q := by
  have hW := hF.1; have hT := hF.2.1; have hN := hF.2.2.1
  obtain ⟨pe1, pe2⟩ := pn_e hW
  have fb := fc_b F
  have n14 : 2 * fc F ≤ 14 := by omega
  have hC2 := hC
  obtain ⟨hS, -, -, t2⟩ := hC2
  have okS : ∀ i j m a, i < pn F → j < pn F → okT2 a m → okT2 (twS F i j a) (m + 1) := by
    intro i j m a hi hj ha
    unfold twS
    by_cases q : firm (Wl F (ctT F i j)) (2 * fc F) (fullS (2 * fc F))
    · rw [ic_t q]
      have s0 := side_all (Wl F (ctT F i j)) (2 * fc F) q
      have hB : Wb (Wl F (ctT F i j)) (2 * fc F) := Wl_b hW hT (fun t ht => by
        unfold ctT
        split
        · exact ctP_ok (by omega) (by omega)
        · exact ctP_ok (by omega) (by omega))
      have wb := wk_b (WSd_all n14 hB) s0
      have eU : lox (sdA (Wl F (ctT F i j)) (2 * fc F)).2.2.2 (sz3 (sdA (Wl F (ctT F i j)) (2 * fc F)).2.2.1) = wkU (Wl F (ctT F i j)) (2 * fc F) := rfl
      have eL : loy (sdA (Wl F (ctT F i j)) (2 * fc F)).2.2.2 (sz3 (sdA (Wl F (ctT F i j)) (2 * fc F)).2.2.1) = wkL (Wl F (ctT F i j)) (2 * fc F) := rfl
      rw [eU, eL] at wb
      generalize wkU (Wl F (ctT F i j)) (2 * fc F) = u at *
      generalize wkL (Wl F (ctT F i j)) (2 * fc F) = l at *
      unfold okT2 at ha ⊢
      by_cases y : betr a.2.1 a.2.2.2 u l
      · rw [ic_t y]; dsimp only
        exact ⟨by omega, Or.inr (by omega)⟩
      · rw [ic_f y]; dsimp only
        refine ⟨by omega, Or.inr ?_⟩
        have na : ¬ a.2.1 < 0 := fun z => y (Or.inl z)
        omega
    · rw [ic_f q]
      unfold okT2 at ha ⊢
      omega
  have ok : okT2 (twA F) 4096 := by
    have o1 := forN_I (f := twI F) (P := fun i a => okT2 a (64 * i)) (pn F) 0 (0, -2, -2, -2, -2) (fun i a _ hi ha => ?_) ⟨⟨by decide, by decide⟩, Or.inl ⟨rfl, rfl, rfl, rfl, rfl⟩⟩
    · rw [Nat.zero_add] at o1
      have o2 : okT2 (twA F) (64 * pn F) := o1
      unfold okT2 at o2 ⊢
      omega
    · have o2 := forN_I (f := twS F i) (P := fun j a => okT2 a (64 * i + (j - (i + 1)))) (pn F - (i + 1)) (i + 1) a (fun j a h1 h2 ha => ?_) (by rw [Nat.sub_self]; exact ha)
      · have o3 : okT2 (twI F i a) (64 * i + (i + 1 + (pn F - (i + 1)) - (i + 1))) := o2
        unfold okT2 at o3 ⊢
        omega
      · have := okS i j _ a (by omega) (by omega) ha
        rw [show 64 * i + (j - (i + 1)) + 1 = 64 * i + (j + 1 - (i + 1)) by omega] at this
        exact this
  refine st_85 SI SJ ⟨fun c => ?_, fun c => ?_⟩
  · let HR : Nat → T5 → gj_I → gj_J → Prop := fun m a A B => FI LItw SI A ∧ FJ LJtw SJ B ∧ RT5 a A B ∧ okT2 a m
    have ns : ∀ m a A B, HR m a A B → NS3 F A := fun m a A B g => hS.f g.1 (fun o k h1 h2 z => by have := LItw_no z; omega)
    have inner : ∀ (i : Nat) (a : T5) (A : gj_I) (B : gj_J), i < pn F → HR (64 * i) a A B → (∀ A' B', HR (64 * (i + 1)) (twI F i a) A' B' → GoV E mt_85 20 [some (.ref 65), some (.ref 3), some (.int (i3 ((i + 1 : Nat) : Int))), none] A' B' Q) → GoV E mt_85 35 [some (.ref 65), some (.ref 3), some (.int (i3 (i : Nat))), some (.int (i3 ((i + 1 : Nat) : Int)))] A B Q := by
      intro i a A B hi hH hc
      refine for_lp (f := twS F i) (n := pn F) (R := fun j a A B => HR (64 * i + (j - (i + 1))) a A B ∧ i < j) (G := fun j (a : T5) A B => GoV E mt_85 35 [some (.ref 65), some (.ref 3), some (.int (i3 (i : Nat))), some (.int (i3 (j : Nat)))] A B Q) ?_ (pn F - (i + 1)) (i + 1) a A B (by omega) ⟨by rw [Nat.sub_self]; exact hH, by omega⟩ ?_
      · rintro j a A B hj ⟨hH, hij⟩ ih
        have hSA := ns _ _ _ _ hH
        obtain ⟨g1, g2, g3, g4⟩ := hH
        have nx := okS i j _ a hi hj g4
        rw [show 64 * i + (j - (i + 1)) + 1 = 64 * i + (j + 1 - (i + 1)) by omega] at nx
        have hst : twS F i j a = ic (firm (Wl F (ctT F i j)) (2 * fc F) (fullS (2 * fc F))) (ic (betr a.2.1 a.2.2.2 (wkU (Wl F (ctT F i j)) (2 * fc F)) (wkL (Wl F (ctT F i j)) (2 * fc F))) (a.1 + 1, (i : Int), (j : Int), wkU (Wl F (ctT F i j)) (2 * fc F), wkL (Wl F (ctT F i j)) (2 * fc F)) (a.1 + 1, a.2)) a := rfl
        refine lp_85_35 _ _ A B ⟨fun q => ?_, fun q => sp_coupleC hSA hF i j hi hj rfl rfl (fun A2 B2 k1 k2 k3 k4 => ⟨fun y => ?_, fun y => ?_⟩)⟩
        · rw [hSA.2.1.2.1, i3_le (by omega) (by omega) (by omega) (by omega)] at q; omega
        · rw [ibc_0] at y
          rw [hst, ic_f y] at ih nx
          rw [i3_add]
          refine ih A2 B2 ⟨⟨g1.tr (k1.le (fun o k z => Or.inl z)), g2.tr (k2.le (fun o k z => Or.inl z)), ?_, nx⟩, by omega⟩
          obtain ⟨r5, r7, r8⟩ := g3
          refine ⟨by rw [k1 65 5 (by unfold LI66; omega)]; exact r5, by rw [k1 65 7 (by unfold LI66; omega)]; exact r7, fun z => ?_⟩
          rw [k1 65 8 (by unfold LI66; omega), k1 65 9 (by unfold LI66; omega), k2 80 0 (by unfold LJ66; omega), k2 80 1 (by unfold LJ66; omega)]
          exact r8 z
        · rw [ibc_0, Classical.not_not] at y
          rw [hst, ic_t y] at ih
          have hB : Wb (Wl F (ctT F i j)) (2 * fc F) := Wl_b hW hT (fun t ht => by
            unfold ctT
            split
            · exact ctP_ok (by omega) (by omega)
            · exact ctP_ok (by omega) (by omega))
          have s0 := side_all (Wl F (ctT F i j)) (2 * fc F) y
          have r2 : RT5 a A2 B2 := by
            obtain ⟨r5, r7, r8⟩ := g3
            refine ⟨by rw [k1 65 5 (by unfold LI66; omega)]; exact r5, by rw [k1 65 7 (by unfold LI66; omega)]; exact r7, fun z => ?_⟩
            rw [k1 65 8 (by unfold LI66; omega), k1 65 9 (by unfold LI66; omega), k2 80 0 (by unfold LJ66; omega), k2 80 1 (by unfold LJ66; omega)]
            exact r8 z
          refine sp_noteCo k3 k4 n14 hB s0 i j (64 * i + (j - (i + 1))) (by omega) (by omega) (by omega) a r2 g4 rfl rfl (fun A3 B3 l1 l2 l3 l4 => ?_)
          rw [i3_add]
          refine ih A3 B3 ⟨⟨(g1.tr (k1.le (fun o k z => Or.inl z))).tr l1, (g2.tr (k2.le (fun o k z => Or.inl z))).tr l2, l3, ?_⟩, by omega⟩
          rw [show 64 * i + (j - (i + 1)) + 1 = 64 * i + (j + 1 - (i + 1)) by omega] at l4
          exact l4
      · rintro A' B' ⟨hH', -⟩
        have hSA := ns _ _ _ _ hH'
        refine lp_85_35 _ _ A' B' ⟨fun _ => ?_, fun q => ?_⟩
        · rw [i3_add]
          obtain ⟨g1, g2, g3, g4⟩ := hH'
          refine hc A' B' ⟨g1, g2, g3, ?_⟩
          have g4' : okT2 (twI F i a) (64 * i + (pn F - (i + 1))) := g4
          unfold okT2 at g4' ⊢
          omega
        · rw [hSA.2.1.2.1, i3_le (by omega) (by omega) (by omega) (by omega)] at q; omega
    refine for_lp (f := twI F) (n := pn F) (R := fun i a A B => HR (64 * i) a A B) (G := fun i (a : T5) A B => GoV E mt_85 20 [some (.ref 65), some (.ref 3), some (.int (i3 (i : Nat))), none] A B Q) ?_ (pn F) 0 (0, -2, -2, -2, -2) _ SJ (by omega) ⟨(FI.rf.u (Or.inr (Or.inr ⟨rfl, by omega⟩))).u (Or.inr (Or.inr ⟨rfl, by omega⟩)), FJ.rf, ⟨by rw [u2_n (by omega), u2_s], u2_s, fun z => absurd rfl z⟩, ⟨⟨by decide, by decide⟩, Or.inl ⟨rfl, rfl, rfl, rfl, rfl⟩⟩⟩ ?_
    · intro i a A B hi hH ih
      have hSA := ns _ _ _ _ hH
      refine lp_85_20 _ A B ⟨fun q => ?_, fun q => ?_⟩
      · rw [hSA.2.1.2.1, i3_le (by omega) (by omega) (by omega) (by omega)] at q; omega
      · rw [i3_add]
        exact inner i a A B hi hH ih
    · intro A' B' hH'
      have hSA := ns _ _ _ _ hH'
      obtain ⟨g1, g2, g3, g4⟩ := hH'
      refine lp_85_20 _ A' B' ⟨fun _ => h A' B' g1 g2 g3 ok, fun q => ?_⟩
      rw [hSA.2.1.2.1, i3_le (by omega) (by omega) (by omega) (by omega)] at q; omega
  · rcases t2 with z | z
    · exact absurd z c
    · exact h SI SJ FI.rf FJ.rf z ok
theorem sp_twoC {Q : Int64 → gj_I → gj_J → Prop} {a : Int32} (hC : CNT F SI SJ) (hF : WF F) (w : Int) (wr : -2147483648 ≤ w ∧ w < 2147483648) (ha : a = i3 w) (h : ∀ SI' SJ', FI LCI SI SI' → FJ LCJ SJ SJ' → CNT F SI' SJ' → Q (i6 (twoA F w)) SI' SJ') : DoL E 134 [(.ref 0), (.int a)] SI SJ Q := by
  subst ha
  have bad : ¬ (0 ≤ w ∧ w ≤ 4) → Q (i6 (-9000000000000000000)) SI SJ := fun e => by
    have hh := h SI SJ FI.rf FJ.rf hC
    rw [show twoA F w = -9000000000000000000 from if_neg e] at hh; exact hh
  refine st_134 _ SI SJ ?_
  rw [i3_lt0 (by omega) (by omega), i3_le (by omega) (by omega) (by omega) (by omega)]
  refine ⟨fun c => bad (by omega), fun c => ⟨fun d => sp_seekTwoC hC hF (fun A B g1 g2 g3 g4 => ?_), fun d => bad (by omega)⟩⟩
  have eq : twoA F w = (if w = 0 then (twA F).1 else if w = 1 then (twA F).2.1 else if w = 2 then (twA F).2.2.1 else if w = 3 then (twA F).2.2.2.1 else (twA F).2.2.2.2) := if_pos (by omega)
  have hC2 : CNT F A B := by
    obtain ⟨h1, ⟨k1, k2, k3, k4⟩, h3⟩ := hC
    refine ⟨h1.f g1 (fun o k h1 h2 z => by have := LItw_no z; omega), ⟨?_, ?_, ?_, ?_⟩, ?_, ?_⟩
    · exact LB42.f k1 g1 g2 ⟨fun z => by have := LItw_no z; omega, fun k z => by have := LItw_no z; omega⟩ (fun k => ⟨fun z => by have := LJtw_no z; omega, fun z => by have := LJtw_no z; omega, fun z => by have := LJtw_no z; omega⟩)
    · exact CB42.f k2 g1 g2 (fun k => ⟨fun z => by have := LItw_no z; omega, fun z => by have := LItw_no z; omega⟩) (fun k => ⟨fun z => by have := LJtw_no z; omega, fun z => by have := LJtw_no z; omega, fun z => by have := LJtw_no z; omega⟩)
    · rw [g1 0 12 (fun z => by have := LItw_no z; omega)]; exact k3
    · rw [g1 0 13 (fun z => by have := LItw_no z; omega)]; exact k4
    · rw [g1 65 4 (fun z => by have := LItw_no z; omega), g1 65 6 (fun z => by have := LItw_no z; omega), g2 79 0 (fun z => by have := LJtw_no z; omega), g2 79 1 (fun z => by have := LJtw_no z; omega)]
      exact h3.1
    · exact Or.inr g3
  have hh := h A B (g1.le (fun o k z => by have := LItw_no z; unfold LCI; omega)) (g2.le (fun o k z => by have := LJtw_no z; unfold LCJ; omega)) hC2
  rw [eq] at hh
  clear hC2 h
  unfold okT2 at g4
  obtain ⟨r5, r7, r8⟩ := g3
  generalize twA F = t at *
  obtain ⟨m, x, y, u, l⟩ := t
  dsimp only at g4 r7 r8 hh
  rw [r7, i3_eq0 (by omega) (by omega), i3_eq0 (by omega) (by omega), i3_eq (by omega) (by omega) (by omega) (by omega), i3_eq (by omega) (by omega) (by omega) (by omega), i3_eq (by omega) (by omega) (by omega) (by omega), i3_t (by omega) (by omega), i3_64 (by omega) (by omega)]
  refine ⟨fun q => ⟨fun q2 => ?_, fun q2 => ?_⟩, fun q => ?_⟩
  · obtain ⟨r81, r82, r83, r84⟩ := r8 q2
    rw [r81, r82, r83, r84, i3_64 (by omega) (by omega), i3_64 (by omega) (by omega)]
    refine ⟨fun z => ?_, fun z => ?_, fun z => ?_, fun z => ?_⟩
    · rw [if_neg q, if_pos z] at hh; exact hh
    · rw [if_neg q, if_neg (by omega), if_pos z] at hh; exact hh
    · rw [if_neg q, if_neg (by omega), if_neg (by omega), if_pos z] at hh; exact hh
    · rw [if_neg q, if_neg (by omega), if_neg (by omega), if_neg (by omega)] at hh; exact hh
  · have e : x = -2 ∧ y = -2 ∧ u = -2 ∧ l = -2 := by omega
    obtain ⟨rfl, rfl, rfl, rfl⟩ := e
    rw [if_neg q] at hh
    by_cases z1 : w = 1
    · rw [if_pos z1] at hh; exact hh
    · rw [if_neg z1] at hh
      by_cases z2 : w = 2
      · rw [if_pos z2] at hh; exact hh
      · rw [if_neg z2] at hh
        by_cases z3 : w = 3
        · rw [if_pos z3] at hh; exact hh
        · rw [if_neg z3] at hh; exact hh
  · rw [if_pos q] at hh; exact hh
end TwoC
