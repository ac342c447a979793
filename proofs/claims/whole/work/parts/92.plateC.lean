/-! 92: plates of the class -/
def nx (F : Nat → Int) (i : Nat) : Nat := (i + 1) % nC F
theorem cx_m {F : Nat → Int} (i : Nat) : cx F (i % nC F) = cx F i ∧ cy F (i % nC F) = cy F i := by
  unfold cx cy; rw [Nat.mod_mod]; exact ⟨rfl, rfl⟩
theorem ua_s {f : gj_I} {o k : Nat} {g : Nat → Int32} : gj_ua f o g o k = g k := by simp [gj_ua]
theorem ua_n {f : gj_I} {o k a : Nat} {g : Nat → Int32} (h : a ≠ o) : gj_ua f o g a k = f a k := by
  unfold gj_ua
  have h2 : Nat.beq a o = false := gj_nb h
  simp [h2]
theorem FI.ua {L : Nat → Nat → Prop} {A B : gj_I} {o : Nat} {g : Nat → Int32} (h : FI L A B) (hl : ∀ k, L o k) : FI L A (gj_ua B o g) := fun a b hab => (ua_n (fun q => hab (by rw [q]; exact hl b))).trans (h a b hab)
section Turning
variable {E : gj_E} {SI : gj_I} {SJ : gj_J}
theorem sp_turning {Q : Int32 → gj_I → gj_J → Prop} {a b c d : Int32} (x y z w : Int) (e1 : a = i3 x) (e2 : b = i3 y) (e3 : c = i3 z) (e4 : d = i3 w) (h : Q (i3 (x * w - y * z)) SI SJ) : DoI E 38 [(.int a), (.int b), (.int c), (.int d)] SI SJ Q := by
  subst e1; subst e2; subst e3; subst e4
  refine st_38 _ _ _ _ SI SJ ?_
  rw [i3_mul, i3_mul, i3_sub]; exact h
end Turning
/-- corners -/
def PX4 (F : Nat → Int) (SI : gj_I) : Prop := SI 4 7 = i3 (F 0) ∧ ∀ i, i < nC F → SI 5 i = i3 (cx F i) ∧ SI 6 i = i3 (cy F i)
/-- what follows from them -/
def PD4 (F : Nat → Int) (SI : gj_I) : Prop := (∀ e, e < nC F → SI 7 e = i3 (ax F e) ∧ SI 8 e = i3 (ay F e) ∧ SI 9 e = i3 (stp F e)) ∧ SI 4 8 = i3 (pn F) ∧ ∀ i : Nat, i < pn F → SI 10 i = i3 (pe F i) ∧ SI 11 i = i3 (ps F i)
section Plate4
variable {E : gj_E} {SI : gj_I} {SJ : gj_J} {F : Nat → Int}
theorem PX4.xn (h : PX4 F SI) (hW : Wc F) (i : Nat) : nx F i < nC F ∧ SI 5 (nx F i) = i3 (cx F (i + 1)) ∧ SI 6 (nx F i) = i3 (cy F (i + 1)) := by
  have lt := Nat.mod_lt (i + 1) hW.n.1
  have := h.2 (nx F i) lt
  rw [show cx F (nx F i) = cx F (i + 1) from (cx_m (i + 1)).1, show cy F (nx F i) = cy F (i + 1) from (cx_m (i + 1)).2] at this
  exact ⟨lt, this⟩
theorem PX4.f {A : gj_I} {L : Nat → Nat → Prop} (h : PX4 F SI) (fa : FI L SI A) (hl : ¬ L 4 7 ∧ ∀ k, ¬ L 5 k ∧ ¬ L 6 k) : PX4 F A := by
  refine ⟨by rw [fa _ _ hl.1]; exact h.1, fun i hi => ?_⟩
  rw [fa _ _ (hl.2 i).1, fa _ _ (hl.2 i).2]; exact h.2 i hi
theorem PD4.f {A : gj_I} {L : Nat → Nat → Prop} (h : PD4 F SI) (fa : FI L SI A) (hl : ¬ L 4 8 ∧ ∀ k, ¬ L 7 k ∧ ¬ L 8 k ∧ ¬ L 9 k ∧ ¬ L 10 k ∧ ¬ L 11 k) : PD4 F A := by
  obtain ⟨h1, h2, h3⟩ := h
  refine ⟨fun e he => ?_, by rw [fa _ _ hl.1]; exact h2, fun i hi => ?_⟩
  · obtain ⟨l1, l2, l3, -, -⟩ := hl.2 e
    rw [fa _ _ l1, fa _ _ l2, fa _ _ l3]; exact h1 e he
  · obtain ⟨-, -, -, l4, l5⟩ := hl.2 i
    rw [fa _ _ l4, fa _ _ l5]; exact h3 i hi
theorem sp_next4 {Q : Int32 → gj_I → gj_J → Prop} {a : Int32} (h7 : SI 4 7 = i3 (F 0)) (hW : Wc F) (i : Nat) (hi : i < nC F) (ha : a = i3 i) (h : Q (i3 (nx F i : Nat)) SI SJ) : DoI E 29 [(.ref 4), (.int a)] SI SJ Q := by
  subst ha
  obtain ⟨n1, n2, n3⟩ := hW.n
  refine st_29_4 _ SI SJ ?_
  rw [h7, n3, i3_add, i3_le (by omega) (by omega) (by omega) (by omega)]
  unfold nx at h
  refine ⟨fun c => ?_, fun c => ?_⟩
  · rw [show i + 1 = nC F by omega, Nat.mod_self] at h; exact h
  · rw [Nat.mod_eq_of_lt (by omega)] at h; exact h
end Plate4
/-- corners -/
def PX17 (F : Nat → Int) (SI : gj_I) : Prop := SI 17 7 = i3 (F 0) ∧ ∀ i, i < nC F → SI 18 i = i3 (cx F i) ∧ SI 19 i = i3 (cy F i)
/-- what follows from them -/
def PD17 (F : Nat → Int) (SI : gj_I) : Prop := (∀ e, e < nC F → SI 20 e = i3 (ax F e) ∧ SI 21 e = i3 (ay F e) ∧ SI 22 e = i3 (stp F e)) ∧ SI 17 8 = i3 (pn F) ∧ ∀ i : Nat, i < pn F → SI 23 i = i3 (pe F i) ∧ SI 24 i = i3 (ps F i)
section Plate17
variable {E : gj_E} {SI : gj_I} {SJ : gj_J} {F : Nat → Int}
theorem PX17.xn (h : PX17 F SI) (hW : Wc F) (i : Nat) : nx F i < nC F ∧ SI 18 (nx F i) = i3 (cx F (i + 1)) ∧ SI 19 (nx F i) = i3 (cy F (i + 1)) := by
  have lt := Nat.mod_lt (i + 1) hW.n.1
  have := h.2 (nx F i) lt
  rw [show cx F (nx F i) = cx F (i + 1) from (cx_m (i + 1)).1, show cy F (nx F i) = cy F (i + 1) from (cx_m (i + 1)).2] at this
  exact ⟨lt, this⟩
theorem PX17.f {A : gj_I} {L : Nat → Nat → Prop} (h : PX17 F SI) (fa : FI L SI A) (hl : ¬ L 17 7 ∧ ∀ k, ¬ L 18 k ∧ ¬ L 19 k) : PX17 F A := by
  refine ⟨by rw [fa _ _ hl.1]; exact h.1, fun i hi => ?_⟩
  rw [fa _ _ (hl.2 i).1, fa _ _ (hl.2 i).2]; exact h.2 i hi
theorem PD17.f {A : gj_I} {L : Nat → Nat → Prop} (h : PD17 F SI) (fa : FI L SI A) (hl : ¬ L 17 8 ∧ ∀ k, ¬ L 20 k ∧ ¬ L 21 k ∧ ¬ L 22 k ∧ ¬ L 23 k ∧ ¬ L 24 k) : PD17 F A := by
  obtain ⟨h1, h2, h3⟩ := h
  refine ⟨fun e he => ?_, by rw [fa _ _ hl.1]; exact h2, fun i hi => ?_⟩
  · obtain ⟨l1, l2, l3, -, -⟩ := hl.2 e
    rw [fa _ _ l1, fa _ _ l2, fa _ _ l3]; exact h1 e he
  · obtain ⟨-, -, -, l4, l5⟩ := hl.2 i
    rw [fa _ _ l4, fa _ _ l5]; exact h3 i hi
theorem sp_next17 {Q : Int32 → gj_I → gj_J → Prop} {a : Int32} (h7 : SI 17 7 = i3 (F 0)) (hW : Wc F) (i : Nat) (hi : i < nC F) (ha : a = i3 i) (h : Q (i3 (nx F i : Nat)) SI SJ) : DoI E 29 [(.ref 17), (.int a)] SI SJ Q := by
  subst ha
  obtain ⟨n1, n2, n3⟩ := hW.n
  refine st_29_17 _ SI SJ ?_
  rw [h7, n3, i3_add, i3_le (by omega) (by omega) (by omega) (by omega)]
  unfold nx at h
  refine ⟨fun c => ?_, fun c => ?_⟩
  · rw [show i + 1 = nC F by omega, Nat.mod_self] at h; exact h
  · rw [Nat.mod_eq_of_lt (by omega)] at h; exact h
end Plate17
/-- corners -/
def PX29 (F : Nat → Int) (SI : gj_I) : Prop := SI 29 7 = i3 (F 0) ∧ ∀ i, i < nC F → SI 30 i = i3 (cx F i) ∧ SI 31 i = i3 (cy F i)
/-- what follows from them -/
def PD29 (F : Nat → Int) (SI : gj_I) : Prop := (∀ e, e < nC F → SI 32 e = i3 (ax F e) ∧ SI 33 e = i3 (ay F e) ∧ SI 34 e = i3 (stp F e)) ∧ SI 29 8 = i3 (pn F) ∧ ∀ i : Nat, i < pn F → SI 35 i = i3 (pe F i) ∧ SI 36 i = i3 (ps F i)
section Plate29
variable {E : gj_E} {SI : gj_I} {SJ : gj_J} {F : Nat → Int}
theorem PX29.xn (h : PX29 F SI) (hW : Wc F) (i : Nat) : nx F i < nC F ∧ SI 30 (nx F i) = i3 (cx F (i + 1)) ∧ SI 31 (nx F i) = i3 (cy F (i + 1)) := by
  have lt := Nat.mod_lt (i + 1) hW.n.1
  have := h.2 (nx F i) lt
  rw [show cx F (nx F i) = cx F (i + 1) from (cx_m (i + 1)).1, show cy F (nx F i) = cy F (i + 1) from (cx_m (i + 1)).2] at this
  exact ⟨lt, this⟩
theorem PX29.f {A : gj_I} {L : Nat → Nat → Prop} (h : PX29 F SI) (fa : FI L SI A) (hl : ¬ L 29 7 ∧ ∀ k, ¬ L 30 k ∧ ¬ L 31 k) : PX29 F A := by
  refine ⟨by rw [fa _ _ hl.1]; exact h.1, fun i hi => ?_⟩
  rw [fa _ _ (hl.2 i).1, fa _ _ (hl.2 i).2]; exact h.2 i hi
theorem PD29.f {A : gj_I} {L : Nat → Nat → Prop} (h : PD29 F SI) (fa : FI L SI A) (hl : ¬ L 29 8 ∧ ∀ k, ¬ L 32 k ∧ ¬ L 33 k ∧ ¬ L 34 k ∧ ¬ L 35 k ∧ ¬ L 36 k) : PD29 F A := by
  obtain ⟨h1, h2, h3⟩ := h
  refine ⟨fun e he => ?_, by rw [fa _ _ hl.1]; exact h2, fun i hi => ?_⟩
  · obtain ⟨l1, l2, l3, -, -⟩ := hl.2 e
    rw [fa _ _ l1, fa _ _ l2, fa _ _ l3]; exact h1 e he
  · obtain ⟨-, -, -, l4, l5⟩ := hl.2 i
    rw [fa _ _ l4, fa _ _ l5]; exact h3 i hi
theorem sp_next29 {Q : Int32 → gj_I → gj_J → Prop} {a : Int32} (h7 : SI 29 7 = i3 (F 0)) (hW : Wc F) (i : Nat) (hi : i < nC F) (ha : a = i3 i) (h : Q (i3 (nx F i : Nat)) SI SJ) : DoI E 29 [(.ref 29), (.int a)] SI SJ Q := by
  subst ha
  obtain ⟨n1, n2, n3⟩ := hW.n
  refine st_29_29 _ SI SJ ?_
  rw [h7, n3, i3_add, i3_le (by omega) (by omega) (by omega) (by omega)]
  unfold nx at h
  refine ⟨fun c => ?_, fun c => ?_⟩
  · rw [show i + 1 = nC F by omega, Nat.mod_self] at h; exact h
  · rw [Nat.mod_eq_of_lt (by omega)] at h; exact h
end Plate29
section Derive4
variable {E : gj_E} {SI : gj_I} {SJ : gj_J} {F : Nat → Int}
def LD4 (o k : Nat) : Prop := o = 7 ∨ o = 8 ∨ o = 9 ∨ o = 10 ∨ o = 11 ∨ (o = 4 ∧ k = 8)
theorem sp_derive4 {Q : gj_I → gj_J → Prop} (hX : PX4 F SI) (hW : Wp F) (h : ∀ SI', FI LD4 SI SI' → PD4 F SI' → Q SI' SJ) : DoV E 28 [(.ref 4)] SI SJ Q := by
  obtain ⟨n1, n2, n3⟩ := hW.1.n
  obtain ⟨pe1, pe2⟩ := pn_e hW
  refine st_28_4 SI SJ ?_
  have plb : ∀ e, e ≤ nC F → 0 ≤ pl F e ∧ pl F e ≤ pn F := by
    intro e he
    have a := hW.mono e 0
    have b := hW.mono (nC F - e) e
    rw [show e + (nC F - e) = nC F by omega] at b
    rw [Nat.zero_add] at a
    have c : pl F 0 = 0 := rfl
    omega
  let HR : Nat → Int → gj_I → Prop := fun e p A => FI LD4 SI A ∧ A 4 8 = i3 p ∧ (∀ t, t < e → A 7 t = i3 (ax F t) ∧ A 8 t = i3 (ay F t) ∧ A 9 t = i3 (stp F t)) ∧ ∀ i : Nat, (i : Int) < p → A 10 i = i3 (pe F i) ∧ A 11 i = i3 (ps F i)
  refine up_lp (α := Unit) (P := fun e _ A B => B = SJ ∧ HR e (pl F e) A) (G := fun e _ A B => GoV E mt_28 7 [some (.ref 4), some (.int (i3 (e : Nat))), none, none, none, none] A B Q) (nC F) ?_ ?_ 0 () _ SJ (by omega) ⟨rfl, FI.rf.u (by unfold LD4; omega), u2_s, fun t ht => by omega, fun i hi => by have c : pl F 0 = 0 := rfl; omega⟩
  · rintro _ A B ⟨rfl, g1, g2, g3, g4⟩
    have e7 : A 4 7 = i3 (F 0) := by rw [g1 4 7 (by unfold LD4; omega)]; exact hX.1
    refine lp_28_7_4 _ A B ⟨fun _ => h A g1 ⟨g3, by rw [g2, pe1], fun i hi => g4 i (by omega)⟩, fun c => ?_⟩
    rw [e7, n3, i3_le (by omega) (by omega) (by omega) (by omega)] at c; omega
  · rintro e _ A B he ⟨rfl, g1, g2, g3, g4⟩ ih
    have hXA : PX4 F A := hX.f g1 (by unfold LD4; exact ⟨by omega, fun k => by omega⟩)
    have e7 := hXA.1
    obtain ⟨y1, y2⟩ := hXA.2 e he
    obtain ⟨z0, z1, z2⟩ := hXA.xn hW.1 e
    have b1 := hW.1.b e; have b2 := hW.1.b (e + 1); have sb := hW.1.s e; have sp := hW.2.2 e
    have p1 := plb e (by omega); have p2 := plb (e + 1) (by omega)
    have eps : pl F (e + 1) = pl F e + stp F e - 1 := rfl
    have inner : ∀ A', HR (e + 1) (pl F e) A' → GoV E mt_28 112 [some (.ref 4), some (.int (i3 (e : Nat))), none, none, some (.int (i3 (stp F e : Nat))), some (.int (i3 1))] A' B Q := by
      intro A' hH
      refine up_lp (α := Unit) (P := fun k _ A B' => B' = B ∧ 1 ≤ k ∧ HR (e + 1) (pl F e + k - 1) A) (G := fun k _ A B => GoV E mt_28 112 [some (.ref 4), some (.int (i3 (e : Nat))), none, none, some (.int (i3 (stp F e : Nat))), some (.int (i3 (k : Nat)))] A B Q) (stp F e) ?_ ?_ 1 () A' B (by omega) ⟨rfl, by omega, by rw [show pl F e + ((1 : Nat) : Int) - 1 = pl F e by omega]; exact hH⟩
      · rintro _ A B ⟨rfl, k1, hH⟩
        refine lp_28_112_4 _ _ _ A B ⟨fun _ => ?_, fun c => ?_⟩
        · rw [i3_add]
          exact ih () A B ⟨rfl, by rw [eps]; exact hH⟩
        · rw [i3_le (by omega) (by omega) (by omega) (by omega)] at c; omega
      · rintro k _ A B hk ⟨rfl, k1, f1, f2, f3, f4⟩ ih2
        refine lp_28_112_4 _ _ _ A B ⟨fun c => ?_, fun c => ?_⟩
        · rw [i3_le (by omega) (by omega) (by omega) (by omega)] at c; omega
        · obtain ⟨m, hm⟩ : ∃ m : Nat, pl F e + k - 1 = m := ⟨(pl F e + k - 1).toNat, by omega⟩
          rw [f2, hm, i3_le (by omega) (by omega) (by omega) (by omega), i3_in (by omega) (by omega), i3_n (by omega) (by omega), show ((m : Nat) : Int).toNat = m by omega, i3_add, i3_add]
          refine ⟨fun q => by omega, fun _ => ⟨by omega, ih2 () _ B ⟨rfl, by omega, ?_, ?_, ?_, ?_⟩⟩⟩
          · exact ((f1.u (by unfold LD4; omega)).u (by unfold LD4; omega)).u (by unfold LD4; omega)
          · rw [u2_s, i3_add]; exact i3_c (by omega)
          · intro t ht
            rw [u2_n (by omega), u2_n (by omega), u2_n (by omega), u2_n (by omega), u2_n (by omega), u2_n (by omega), u2_n (by omega), u2_n (by omega), u2_n (by omega)]; exact f3 t ht
          · intro i hi
            by_cases q : i = m
            · subst q
              have q0 : 0 ≤ (i : Int) := by omega
              have q1 : (i : Int) < pl F (nC F) := by omega
              obtain ⟨w1, w2, w3⟩ := pe_s q0 q1
              have ee : pe F i = e := pl_un hW w2 w3 (by omega) (by omega)
              have es : ps F i = k := by unfold ps; rw [ee]; omega
              rw [u2_n (by omega), u2_n (by omega), u2_s, u2_n (by omega), u2_s, ee, es]; exact ⟨rfl, rfl⟩
            · rw [u2_n (by omega), u2_n (by omega), u2_n (by omega), u2_n (by omega), u2_n (by omega), u2_n (by omega)]; exact f4 i (by omega)
    refine lp_28_7_4 _ A B ⟨fun c => ?_, fun c => sp_next4 e7 hW.1 e he rfl ?_⟩
    · rw [e7, n3, i3_le (by omega) (by omega) (by omega) (by omega)] at c; omega
    · rw [i3_in (by omega) (by omega), i3_in (by omega) (by omega)]
      refine ⟨by omega, by omega, sp_next4 e7 hW.1 e he rfl ?_⟩
      rw [i3_in (by omega) (by omega), i3_n (by omega) (by omega), i3_n (by omega) (by omega), show ((e : Nat) : Int).toNat = e by omega, show ((nx F e : Nat) : Int).toNat = nx F e by omega, y1, y2, z1, z2, i3_sub, i3_sub, i3_64 (by omega) (by omega), i3_64 (by omega) (by omega)]
      refine ⟨by omega, sp_divisor (by omega) (by omega) (by omega) (by omega) ?_⟩
      have eg : Int.gcd (cx F (e + 1) - cx F e) (cy F (e + 1) - cy F e) = stp F e := rfl
      rw [eg, i6_32 (by omega) (by omega), i3_le (by omega) (by omega) (by omega) (by omega), i3_eq0 (by omega) (by omega), i3_div (by omega) (by omega) (by omega) (by omega), i3_div (by omega) (by omega) (by omega) (by omega)]
      have fin : ∀ u v : Int, u = ax F e → v = ay F e → GoV E mt_28 112 [some (.ref 4), some (.int (i3 (e : Nat))), none, none, some (.int (i3 (stp F e : Nat))), some (.int (i3 1))] (gj_u2 (gj_u2 (gj_u2 A 9 e (i3 (stp F e : Nat))) 7 e (i3 u)) 8 e (i3 v)) B Q := by
        intro u v hu hv
        subst hu; subst hv
        refine inner _ ⟨((g1.u (by unfold LD4; omega)).u (by unfold LD4; omega)).u (by unfold LD4; omega), by rw [u2_n (by omega), u2_n (by omega), u2_n (by omega)]; exact g2, fun t ht => ?_, fun i hi => ?_⟩
        · by_cases q : t = e
          · subst q
            rw [u2_n (by omega), u2_s, u2_s, u2_n (by omega), u2_n (by omega), u2_s]; exact ⟨rfl, rfl, rfl⟩
          · rw [u2_n (by omega), u2_n (by omega), u2_n (by omega), u2_n (by omega), u2_n (by omega), u2_n (by omega), u2_n (by omega), u2_n (by omega), u2_n (by omega)]; exact g3 t (by omega)
        · rw [u2_n (by omega), u2_n (by omega), u2_n (by omega), u2_n (by omega), u2_n (by omega), u2_n (by omega)]; exact g4 i hi
      have e1 : (stp F e : Int) ≤ 1 → cx F (e + 1) - cx F e = ax F e ∧ cy F (e + 1) - cy F e = ay F e := by
        intro q
        have q1 : stp F e = 1 := by omega
        unfold ax ay; rw [q1]
        exact ⟨(Int.tdiv_one _).symm, (Int.tdiv_one _).symm⟩
      refine ⟨fun q => ⟨fun _ => fin _ _ (e1 q).1 (e1 q).2, fun q2 => absurd q q2⟩, fun q => ⟨by omega, fun q2 => absurd q2 q, fun _ => fin _ _ rfl rfl⟩⟩
end Derive4
section Derive17
variable {E : gj_E} {SI : gj_I} {SJ : gj_J} {F : Nat → Int}
def LD17 (o k : Nat) : Prop := o = 20 ∨ o = 21 ∨ o = 22 ∨ o = 23 ∨ o = 24 ∨ (o = 17 ∧ k = 8)
theorem sp_derive17 {Q : gj_I → gj_J → Prop} (hX : PX17 F SI) (hW : Wp F) (h : ∀ SI', FI LD17 SI SI' → PD17 F SI' → Q SI' SJ) : DoV E 28 [(.ref 17)] SI SJ Q := by
  obtain ⟨n1, n2, n3⟩ := hW.1.n
  obtain ⟨pe1, pe2⟩ := pn_e hW
  refine st_28_17 SI SJ ?_
  have plb : ∀ e, e ≤ nC F → 0 ≤ pl F e ∧ pl F e ≤ pn F := by
    intro e he
    have a := hW.mono e 0
    have b := hW.mono (nC F - e) e
    rw [show e + (nC F - e) = nC F by omega] at b
    rw [Nat.zero_add] at a
    have c : pl F 0 = 0 := rfl
    omega
  let HR : Nat → Int → gj_I → Prop := fun e p A => FI LD17 SI A ∧ A 17 8 = i3 p ∧ (∀ t, t < e → A 20 t = i3 (ax F t) ∧ A 21 t = i3 (ay F t) ∧ A 22 t = i3 (stp F t)) ∧ ∀ i : Nat, (i : Int) < p → A 23 i = i3 (pe F i) ∧ A 24 i = i3 (ps F i)
  refine up_lp (α := Unit) (P := fun e _ A B => B = SJ ∧ HR e (pl F e) A) (G := fun e _ A B => GoV E mt_28 7 [some (.ref 17), some (.int (i3 (e : Nat))), none, none, none, none] A B Q) (nC F) ?_ ?_ 0 () _ SJ (by omega) ⟨rfl, FI.rf.u (by unfold LD17; omega), u2_s, fun t ht => by omega, fun i hi => by have c : pl F 0 = 0 := rfl; omega⟩
  · rintro _ A B ⟨rfl, g1, g2, g3, g4⟩
    have e7 : A 17 7 = i3 (F 0) := by rw [g1 17 7 (by unfold LD17; omega)]; exact hX.1
    refine lp_28_7_17 _ A B ⟨fun _ => h A g1 ⟨g3, by rw [g2, pe1], fun i hi => g4 i (by omega)⟩, fun c => ?_⟩
    rw [e7, n3, i3_le (by omega) (by omega) (by omega) (by omega)] at c; omega
  · rintro e _ A B he ⟨rfl, g1, g2, g3, g4⟩ ih
    have hXA : PX17 F A := hX.f g1 (by unfold LD17; exact ⟨by omega, fun k => by omega⟩)
    have e7 := hXA.1
    obtain ⟨y1, y2⟩ := hXA.2 e he
    obtain ⟨z0, z1, z2⟩ := hXA.xn hW.1 e
    have b1 := hW.1.b e; have b2 := hW.1.b (e + 1); have sb := hW.1.s e; have sp := hW.2.2 e
    have p1 := plb e (by omega); have p2 := plb (e + 1) (by omega)
    have eps : pl F (e + 1) = pl F e + stp F e - 1 := rfl
    have inner : ∀ A', HR (e + 1) (pl F e) A' → GoV E mt_28 112 [some (.ref 17), some (.int (i3 (e : Nat))), none, none, some (.int (i3 (stp F e : Nat))), some (.int (i3 1))] A' B Q := by
      intro A' hH
      refine up_lp (α := Unit) (P := fun k _ A B' => B' = B ∧ 1 ≤ k ∧ HR (e + 1) (pl F e + k - 1) A) (G := fun k _ A B => GoV E mt_28 112 [some (.ref 17), some (.int (i3 (e : Nat))), none, none, some (.int (i3 (stp F e : Nat))), some (.int (i3 (k : Nat)))] A B Q) (stp F e) ?_ ?_ 1 () A' B (by omega) ⟨rfl, by omega, by rw [show pl F e + ((1 : Nat) : Int) - 1 = pl F e by omega]; exact hH⟩
      · rintro _ A B ⟨rfl, k1, hH⟩
        refine lp_28_112_17 _ _ _ A B ⟨fun _ => ?_, fun c => ?_⟩
        · rw [i3_add]
          exact ih () A B ⟨rfl, by rw [eps]; exact hH⟩
        · rw [i3_le (by omega) (by omega) (by omega) (by omega)] at c; omega
      · rintro k _ A B hk ⟨rfl, k1, f1, f2, f3, f4⟩ ih2
        refine lp_28_112_17 _ _ _ A B ⟨fun c => ?_, fun c => ?_⟩
        · rw [i3_le (by omega) (by omega) (by omega) (by omega)] at c; omega
        · obtain ⟨m, hm⟩ : ∃ m : Nat, pl F e + k - 1 = m := ⟨(pl F e + k - 1).toNat, by omega⟩
          rw [f2, hm, i3_le (by omega) (by omega) (by omega) (by omega), i3_in (by omega) (by omega), i3_n (by omega) (by omega), show ((m : Nat) : Int).toNat = m by omega, i3_add, i3_add]
          refine ⟨fun q => by omega, fun _ => ⟨by omega, ih2 () _ B ⟨rfl, by omega, ?_, ?_, ?_, ?_⟩⟩⟩
          · exact ((f1.u (by unfold LD17; omega)).u (by unfold LD17; omega)).u (by unfold LD17; omega)
          · rw [u2_s, i3_add]; exact i3_c (by omega)
          · intro t ht
            rw [u2_n (by omega), u2_n (by omega), u2_n (by omega), u2_n (by omega), u2_n (by omega), u2_n (by omega), u2_n (by omega), u2_n (by omega), u2_n (by omega)]; exact f3 t ht
          · intro i hi
            by_cases q : i = m
            · subst q
              have q0 : 0 ≤ (i : Int) := by omega
              have q1 : (i : Int) < pl F (nC F) := by omega
              obtain ⟨w1, w2, w3⟩ := pe_s q0 q1
              have ee : pe F i = e := pl_un hW w2 w3 (by omega) (by omega)
              have es : ps F i = k := by unfold ps; rw [ee]; omega
              rw [u2_n (by omega), u2_n (by omega), u2_s, u2_n (by omega), u2_s, ee, es]; exact ⟨rfl, rfl⟩
            · rw [u2_n (by omega), u2_n (by omega), u2_n (by omega), u2_n (by omega), u2_n (by omega), u2_n (by omega)]; exact f4 i (by omega)
    refine lp_28_7_17 _ A B ⟨fun c => ?_, fun c => sp_next17 e7 hW.1 e he rfl ?_⟩
    · rw [e7, n3, i3_le (by omega) (by omega) (by omega) (by omega)] at c; omega
    · rw [i3_in (by omega) (by omega), i3_in (by omega) (by omega)]
      refine ⟨by omega, by omega, sp_next17 e7 hW.1 e he rfl ?_⟩
      rw [i3_in (by omega) (by omega), i3_n (by omega) (by omega), i3_n (by omega) (by omega), show ((e : Nat) : Int).toNat = e by omega, show ((nx F e : Nat) : Int).toNat = nx F e by omega, y1, y2, z1, z2, i3_sub, i3_sub, i3_64 (by omega) (by omega), i3_64 (by omega) (by omega)]
      refine ⟨by omega, sp_divisor (by omega) (by omega) (by omega) (by omega) ?_⟩
      have eg : Int.gcd (cx F (e + 1) - cx F e) (cy F (e + 1) - cy F e) = stp F e := rfl
      rw [eg, i6_32 (by omega) (by omega), i3_le (by omega) (by omega) (by omega) (by omega), i3_eq0 (by omega) (by omega), i3_div (by omega) (by omega) (by omega) (by omega), i3_div (by omega) (by omega) (by omega) (by omega)]
      have fin : ∀ u v : Int, u = ax F e → v = ay F e → GoV E mt_28 112 [some (.ref 17), some (.int (i3 (e : Nat))), none, none, some (.int (i3 (stp F e : Nat))), some (.int (i3 1))] (gj_u2 (gj_u2 (gj_u2 A 22 e (i3 (stp F e : Nat))) 20 e (i3 u)) 21 e (i3 v)) B Q := by
        intro u v hu hv
        subst hu; subst hv
        refine inner _ ⟨((g1.u (by unfold LD17; omega)).u (by unfold LD17; omega)).u (by unfold LD17; omega), by rw [u2_n (by omega), u2_n (by omega), u2_n (by omega)]; exact g2, fun t ht => ?_, fun i hi => ?_⟩
        · by_cases q : t = e
          · subst q
            rw [u2_n (by omega), u2_s, u2_s, u2_n (by omega), u2_n (by omega), u2_s]; exact ⟨rfl, rfl, rfl⟩
          · rw [u2_n (by omega), u2_n (by omega), u2_n (by omega), u2_n (by omega), u2_n (by omega), u2_n (by omega), u2_n (by omega), u2_n (by omega), u2_n (by omega)]; exact g3 t (by omega)
        · rw [u2_n (by omega), u2_n (by omega), u2_n (by omega), u2_n (by omega), u2_n (by omega), u2_n (by omega)]; exact g4 i hi
      have e1 : (stp F e : Int) ≤ 1 → cx F (e + 1) - cx F e = ax F e ∧ cy F (e + 1) - cy F e = ay F e := by
        intro q
        have q1 : stp F e = 1 := by omega
        unfold ax ay; rw [q1]
        exact ⟨(Int.tdiv_one _).symm, (Int.tdiv_one _).symm⟩
      refine ⟨fun q => ⟨fun _ => fin _ _ (e1 q).1 (e1 q).2, fun q2 => absurd q q2⟩, fun q => ⟨by omega, fun q2 => absurd q2 q, fun _ => fin _ _ rfl rfl⟩⟩
end Derive17
section PlateN
variable {E : gj_E} {SI : gj_I} {SJ : gj_J} {F : Nat → Int}
theorem sp_hasPlace {Q : Int32 → gj_I → gj_J → Prop} {a b : Int32} (hX : PX4 F SI) (hD : PD4 F SI) (hW : Wp F) (e k : Int) (er : -2147483648 ≤ e ∧ e < 2147483648) (kr : -2147483648 ≤ k ∧ k < 2147483648) (ha : a = i3 e) (hb : b = i3 k) (h : Q (ibc (0 ≤ e ∧ e < nC F ∧ 1 ≤ k ∧ k < stp F e.toNat)) SI SJ) : DoI E 30 [(.ref 4), (.int a), (.int b)] SI SJ Q := by
  subst ha; subst hb
  obtain ⟨n1, n2, n3⟩ := hW.1.n
  refine st_30 _ _ SI SJ ?_
  rw [hX.1, n3, i3_lt0 (by omega) (by omega), i3_le (by omega) (by omega) (by omega) (by omega), i3_lt (by omega) (by omega) (by omega) (by omega)]
  refine ⟨fun c => ?_, fun c => ⟨fun c2 => ?_, fun c2 => ⟨fun c3 => ?_, fun c3 => ?_⟩⟩⟩
  · rw [ibc_f (fun z => by omega)] at h; exact h
  · rw [ibc_f (fun z => by omega)] at h; exact h
  · rw [ibc_f (fun z => by omega)] at h; exact h
  · obtain ⟨m, hm⟩ : ∃ m : Nat, e = m := ⟨e.toNat, by omega⟩
    subst hm
    rw [show ((m : Nat) : Int).toNat = m by omega] at h
    obtain ⟨-, -, d3⟩ := hD.1 m (by omega)
    have sb := hW.1.s m
    rw [i3_in (by omega) (by omega), i3_n (by omega) (by omega), show ((m : Nat) : Int).toNat = m by omega, d3, i3_le (by omega) (by omega) (by omega) (by omega)]
    refine ⟨by omega, fun c4 => ?_, fun c4 => ?_⟩
    · rw [ibc_f (fun z => by omega)] at h; exact h
    · rw [ibc_t (by omega)] at h; exact h
theorem sp_stepX {Q : Int32 → gj_I → gj_J → Prop} {a b : Int32} (hX : PX4 F SI) (hD : PD4 F SI) (hW : Wc F) (e : Nat) (k : Int) (he : e < nC F) (ha : a = i3 e) (hb : b = i3 k) (h : Q (i3 (px F e k)) SI SJ) : DoI E 31 [(.ref 4), (.int a), (.int b)] SI SJ Q := by
  subst ha; subst hb
  have n8 := hW.n.2.1
  refine st_31 _ _ SI SJ ?_
  rw [i3_in (by omega) (by omega), i3_n (by omega) (by omega), show ((e : Nat) : Int).toNat = e by omega, (hX.2 e he).1, (hD.1 e he).1, i3_mul, i3_add]
  exact ⟨by omega, h⟩
theorem sp_stepY {Q : Int32 → gj_I → gj_J → Prop} {a b : Int32} (hX : PX4 F SI) (hD : PD4 F SI) (hW : Wc F) (e : Nat) (k : Int) (he : e < nC F) (ha : a = i3 e) (hb : b = i3 k) (h : Q (i3 (py F e k)) SI SJ) : DoI E 32 [(.ref 4), (.int a), (.int b)] SI SJ Q := by
  subst ha; subst hb
  have n8 := hW.n.2.1
  refine st_32 _ _ SI SJ ?_
  rw [i3_in (by omega) (by omega), i3_n (by omega) (by omega), show ((e : Nat) : Int).toNat = e by omega, (hX.2 e he).2, (hD.1 e he).2.1, i3_mul, i3_add]
  exact ⟨by omega, h⟩
end PlateN
theorem sp_copyP4_17 {E : gj_E} {SI : gj_I} {SJ : gj_J} {F : Nat → Int} {Q : gj_I → gj_J → Prop} (hX : PX17 F SI) (hW : Wp F) (h : ∀ SI', FI (fun o k => LD4 o k ∨ o = 5 ∨ o = 6 ∨ (o = 4 ∧ k = 7)) SI SI' → PX4 F SI' → PD4 F SI' → Q SI' SJ) : DoV E 27 [(.ref 4), (.ref 17)] SI SJ Q := by
  have n8 := hW.1.n.2.1
  refine st_27_4_17 SI SJ ?_
  have f0 : FI (fun o k => LD4 o k ∨ o = 5 ∨ o = 6 ∨ (o = 4 ∧ k = 7)) SI (gj_ua (gj_ua (gj_u2 SI 4 7 (SI 17 7)) 5 (va_cpy (SI 18) (SI 5) 0 0 8)) 6 (va_cpy (SI 19) (SI 6) 0 0 8)) := ((FI.rf.u (Or.inr (Or.inr (Or.inr ⟨rfl, rfl⟩)))).ua (fun k => Or.inr (Or.inl rfl))).ua (fun k => Or.inr (Or.inr (Or.inl rfl)))
  have hX0 : PX4 F (gj_ua (gj_ua (gj_u2 SI 4 7 (SI 17 7)) 5 (va_cpy (SI 18) (SI 5) 0 0 8)) 6 (va_cpy (SI 19) (SI 6) 0 0 8)) := by
    refine ⟨by rw [ua_n (by omega), ua_n (by omega), u2_s]; exact hX.1, fun i hi => ?_⟩
    obtain ⟨x1, x2⟩ := hX.2 i hi
    refine ⟨?_, ?_⟩
    · rw [ua_n (by omega), ua_s]; unfold va_cpy; rw [if_pos (by omega), show 0 + (i - 0) = i by omega]; exact x1
    · rw [ua_s]; unfold va_cpy; rw [if_pos (by omega), show 0 + (i - 0) = i by omega]; exact x2
  refine sp_derive4 hX0 hW (fun A fA hD => h A (f0.tr (fA.le (fun o k z => Or.inl z))) (hX0.f fA (by unfold LD4; exact ⟨by omega, fun k => by omega⟩)) hD)
theorem sp_copyP4_29 {E : gj_E} {SI : gj_I} {SJ : gj_J} {F : Nat → Int} {Q : gj_I → gj_J → Prop} (hX : PX29 F SI) (hW : Wp F) (h : ∀ SI', FI (fun o k => LD4 o k ∨ o = 5 ∨ o = 6 ∨ (o = 4 ∧ k = 7)) SI SI' → PX4 F SI' → PD4 F SI' → Q SI' SJ) : DoV E 27 [(.ref 4), (.ref 29)] SI SJ Q := by
  have n8 := hW.1.n.2.1
  refine st_27_4_29 SI SJ ?_
  have f0 : FI (fun o k => LD4 o k ∨ o = 5 ∨ o = 6 ∨ (o = 4 ∧ k = 7)) SI (gj_ua (gj_ua (gj_u2 SI 4 7 (SI 29 7)) 5 (va_cpy (SI 30) (SI 5) 0 0 8)) 6 (va_cpy (SI 31) (SI 6) 0 0 8)) := ((FI.rf.u (Or.inr (Or.inr (Or.inr ⟨rfl, rfl⟩)))).ua (fun k => Or.inr (Or.inl rfl))).ua (fun k => Or.inr (Or.inr (Or.inl rfl)))
  have hX0 : PX4 F (gj_ua (gj_ua (gj_u2 SI 4 7 (SI 29 7)) 5 (va_cpy (SI 30) (SI 5) 0 0 8)) 6 (va_cpy (SI 31) (SI 6) 0 0 8)) := by
    refine ⟨by rw [ua_n (by omega), ua_n (by omega), u2_s]; exact hX.1, fun i hi => ?_⟩
    obtain ⟨x1, x2⟩ := hX.2 i hi
    refine ⟨?_, ?_⟩
    · rw [ua_n (by omega), ua_s]; unfold va_cpy; rw [if_pos (by omega), show 0 + (i - 0) = i by omega]; exact x1
    · rw [ua_s]; unfold va_cpy; rw [if_pos (by omega), show 0 + (i - 0) = i by omega]; exact x2
  refine sp_derive4 hX0 hW (fun A fA hD => h A (f0.tr (fA.le (fun o k z => Or.inl z))) (hX0.f fA (by unfold LD4; exact ⟨by omega, fun k => by omega⟩)) hD)
theorem sp_copyP17_4 {E : gj_E} {SI : gj_I} {SJ : gj_J} {F : Nat → Int} {Q : gj_I → gj_J → Prop} (hX : PX4 F SI) (hW : Wp F) (h : ∀ SI', FI (fun o k => LD17 o k ∨ o = 18 ∨ o = 19 ∨ (o = 17 ∧ k = 7)) SI SI' → PX17 F SI' → PD17 F SI' → Q SI' SJ) : DoV E 27 [(.ref 17), (.ref 4)] SI SJ Q := by
  have n8 := hW.1.n.2.1
  refine st_27_17_4 SI SJ ?_
  have f0 : FI (fun o k => LD17 o k ∨ o = 18 ∨ o = 19 ∨ (o = 17 ∧ k = 7)) SI (gj_ua (gj_ua (gj_u2 SI 17 7 (SI 4 7)) 18 (va_cpy (SI 5) (SI 18) 0 0 8)) 19 (va_cpy (SI 6) (SI 19) 0 0 8)) := ((FI.rf.u (Or.inr (Or.inr (Or.inr ⟨rfl, rfl⟩)))).ua (fun k => Or.inr (Or.inl rfl))).ua (fun k => Or.inr (Or.inr (Or.inl rfl)))
  have hX0 : PX17 F (gj_ua (gj_ua (gj_u2 SI 17 7 (SI 4 7)) 18 (va_cpy (SI 5) (SI 18) 0 0 8)) 19 (va_cpy (SI 6) (SI 19) 0 0 8)) := by
    refine ⟨by rw [ua_n (by omega), ua_n (by omega), u2_s]; exact hX.1, fun i hi => ?_⟩
    obtain ⟨x1, x2⟩ := hX.2 i hi
    refine ⟨?_, ?_⟩
    · rw [ua_n (by omega), ua_s]; unfold va_cpy; rw [if_pos (by omega), show 0 + (i - 0) = i by omega]; exact x1
    · rw [ua_s]; unfold va_cpy; rw [if_pos (by omega), show 0 + (i - 0) = i by omega]; exact x2
  refine sp_derive17 hX0 hW (fun A fA hD => h A (f0.tr (fA.le (fun o k z => Or.inl z))) (hX0.f fA (by unfold LD17; exact ⟨by omega, fun k => by omega⟩)) hD)
