/-! 90: the class's bundles of wrenches -/
def cpl (i j : Nat) : Nat := c2 j + i
theorem cpl_b {i j : Nat} (h : i < j) (hj : j < 14) : cpl i j < 91 := by
  have : c2 (j + 1) ≤ c2 14 := c2_m (by omega)
  have e : c2 (j + 1) = c2 j + j := rfl
  have f : c2 14 = 91 := by decide
  unfold cpl; omega
theorem cpl_un {i j a b : Nat} (h : i < j) (h2 : a < b) (e : cpl i j = cpl a b) : i = a ∧ j = b := by
  have key : ∀ {i j a b : Nat}, i < j → j < b → cpl i j < cpl a b := by
    intro i j a b h h2
    have m : c2 (j + 1) ≤ c2 b := c2_m (by omega)
    have e : c2 (j + 1) = c2 j + j := rfl
    unfold cpl; omega
  rcases Nat.lt_trichotomy j b with q | q | q
  · have := key (a := a) h q; omega
  · subst q; unfold cpl at e; omega
  · have := key (a := i) h2 q; omega
theorem cpl_i3 {i j : Nat} (hj : j < 14) : i3 j * (i3 j - i3 1) / i3 2 + i3 i = i3 (cpl i j : Nat) := by
  have := (by decide : ∀ j, j < 14 → Int32.ofNat j * (Int32.ofNat j - i3 1) / i3 2 = Int32.ofNat (c2 j)) j hj
  rw [i3_ofNat, i3_ofNat] at this
  rw [this, i3_add]; rfl
/-- wrenches that make more, less than 0 with p -/
def abS (W : Nat → V3) (p : V3) : Nat → Nat
  | 0 => 0
  | k + 1 => if 0 < dot (W k) p then abS W p k ||| 2 ^ k else abS W p k
def beS (W : Nat → V3) (p : V3) : Nat → Nat
  | 0 => 0
  | k + 1 => if dot (W k) p < 0 then beS W p k ||| 2 ^ k else beS W p k
theorem abS_lt (W : Nat → V3) (p : V3) : ∀ n, abS W p n < 2 ^ n := by
  intro n
  induction n with
  | zero => exact Nat.lt_succ_self 0
  | succ n ih =>
    have h1 : 2 ^ (n + 1) = 2 ^ n * 2 := Nat.pow_succ 2 n
    show (if 0 < dot (W n) p then abS W p n ||| 2 ^ n else abS W p n) < 2 ^ (n + 1)
    split
    · exact Nat.or_lt_two_pow (by omega) (by have : 1 ≤ 2 ^ n := Nat.one_le_two_pow; omega)
    · omega
theorem beS_lt (W : Nat → V3) (p : V3) : ∀ n, beS W p n < 2 ^ n := by
  intro n
  induction n with
  | zero => exact Nat.lt_succ_self 0
  | succ n ih =>
    have h1 : 2 ^ (n + 1) = 2 ^ n * 2 := Nat.pow_succ 2 n
    show (if dot (W n) p < 0 then beS W p n ||| 2 ^ n else beS W p n) < 2 ^ (n + 1)
    split
    · exact Nat.or_lt_two_pow (by omega) (by have : 1 ≤ 2 ^ n := Nat.one_le_two_pow; omega)
    · omega
theorem or_bit {a n k : Nat} : (a ||| 2 ^ n).testBit k = (a.testBit k || decide (n = k)) := by
  rw [Nat.testBit_or, Nat.testBit_two_pow]
theorem abS_bit (W : Nat → V3) (p : V3) : ∀ n k, (abS W p n).testBit k = true ↔ k < n ∧ 0 < dot (W k) p := by
  intro n
  induction n with
  | zero => intro k; simp [abS]
  | succ n ih =>
    intro k
    show (if 0 < dot (W n) p then abS W p n ||| 2 ^ n else abS W p n).testBit k = true ↔ _
    by_cases q : 0 < dot (W n) p
    · rw [if_pos q, or_bit, Bool.or_eq_true, ih k, decide_eq_true_iff]
      constructor
      · rintro (z | z)
        · exact ⟨by omega, z.2⟩
        · subst z; exact ⟨by omega, q⟩
      · rintro ⟨z1, z2⟩
        by_cases e : n = k
        · exact Or.inr e
        · exact Or.inl ⟨by omega, z2⟩
    · rw [if_neg q, ih k]
      constructor
      · rintro ⟨z1, z2⟩; exact ⟨by omega, z2⟩
      · rintro ⟨z1, z2⟩
        refine ⟨?_, z2⟩
        rcases Nat.lt_or_ge k n with y | y
        · exact y
        · have : k = n := by omega
          subst this; exact absurd z2 q
theorem beS_bit (W : Nat → V3) (p : V3) : ∀ n k, (beS W p n).testBit k = true ↔ k < n ∧ dot (W k) p < 0 := by
  intro n
  induction n with
  | zero => intro k; simp [beS]
  | succ n ih =>
    intro k
    show (if dot (W n) p < 0 then beS W p n ||| 2 ^ n else beS W p n).testBit k = true ↔ _
    by_cases q : dot (W n) p < 0
    · rw [if_pos q, or_bit, Bool.or_eq_true, ih k, decide_eq_true_iff]
      constructor
      · rintro (z | z)
        · exact ⟨by omega, z.2⟩
        · subst z; exact ⟨by omega, q⟩
      · rintro ⟨z1, z2⟩
        by_cases e : n = k
        · exact Or.inr e
        · exact Or.inl ⟨by omega, z2⟩
    · rw [if_neg q, ih k]
      constructor
      · rintro ⟨z1, z2⟩; exact ⟨by omega, z2⟩
      · rintro ⟨z1, z2⟩
        refine ⟨?_, z2⟩
        rcases Nat.lt_or_ge k n with y | y
        · exact y
        · have : k = n := by omega
          subst this; exact absurd z2 q
theorem and_0 {a b : Nat} : a &&& b = 0 ↔ ∀ k, ¬ (a.testBit k = true ∧ b.testBit k = true) := by
  constructor
  · intro h k z
    have : (a &&& b).testBit k = true := by rw [Nat.testBit_and, z.1, z.2]; rfl
    rw [h, Nat.zero_testBit] at this; cases this
  · intro h
    apply Nat.eq_of_testBit_eq
    intro k
    rw [Nat.testBit_and, Nat.zero_testBit]
    cases ha : a.testBit k
    · rfl
    · cases hb : b.testBit k
      · rfl
      · exact absurd ⟨ha, hb⟩ (h k)
theorem or_0 {a b : Nat} : a ||| b = 0 ↔ a = 0 ∧ b = 0 := by
  constructor
  · intro h
    have h1 : a ≤ a ||| b := Nat.left_le_or
    have h2 : b ≤ a ||| b := Nat.right_le_or
    omega
  · rintro ⟨rfl, rfl⟩; rfl
theorem bit_0 {a : Nat} : a = 0 ↔ ∀ k, ¬ a.testBit k = true := by
  constructor
  · rintro rfl k z; rw [Nat.zero_testBit] at z; cases z
  · intro h
    apply Nat.eq_of_testBit_eq
    intro k
    rw [Nat.zero_testBit]
    cases hk : a.testBit k
    · rfl
    · exact absurd hk (h k)
theorem sp_couple {E : gj_E} {SI : gj_I} {SJ : gj_J} {Q : Int32 → gj_I → gj_J → Prop} {a b : Int32} (i j : Nat) (hj : j < 14) (ha : a = i3 i) (hb : b = i3 j) (h : Q (i3 (cpl i j : Nat)) SI SJ) : DoI E 2 [(.int a), (.int b)] SI SJ Q := by
  subst ha; subst hb
  refine st_2 _ _ SI SJ ?_
  rw [cpl_i3 hj]; exact h
def LB42 (W : Nat → V3) (O : Nat → Int) (n : Nat) (SI : gj_I) (SJ : gj_J) : Prop := SI 42 9 = i3 n ∧ ∀ j, j < n → SJ 43 j = i6 (W j).1 ∧ SJ 44 j = i6 (W j).2.1 ∧ SJ 45 j = i6 (W j).2.2 ∧ SI 46 j = i3 (O j)
/-- the cross products of couples in S, which wrenches lie above and below -/
def CB42 (S : Nat → Nat → Prop) (W : Nat → V3) (n : Nat) (SI : gj_I) (SJ : gj_J) : Prop := ∀ i j, i < j → j < n → S i j → SJ 47 (cpl i j) = i6 (crs (W i) (W j)).1 ∧ SJ 48 (cpl i j) = i6 (crs (W i) (W j)).2.1 ∧ SJ 49 (cpl i j) = i6 (crs (W i) (W j)).2.2 ∧ SI 50 (cpl i j) = i3 (abS W (crs (W i) (W j)) n : Nat) ∧ SI 51 (cpl i j) = i3 (beS W (crs (W i) (W j)) n : Nat)
def PB42 (W : Nat → V3) (n : Nat) (SI : gj_I) (SJ : gj_J) : Prop := CB42 (fun _ _ => True) W n SI SJ
def LIb42 (o _k : Nat) : Prop := o = 50 ∨ o = 51
def LJb42 (o _k : Nat) : Prop := o = 47 ∨ o = 48 ∨ o = 49
section Bundle42
variable {E : gj_E} {SI : gj_I} {SJ : gj_J} {W : Nat → V3} {O : Nat → Int} {n : Nat}
theorem LB42.f {A : gj_I} {B : gj_J} {L M : Nat → Nat → Prop} (h : LB42 W O n SI SJ) (fa : FI L SI A) (fb : FJ M SJ B) (hl : ¬ L 42 9 ∧ ∀ k, ¬ L 46 k) (hm : ∀ k, ¬ M 43 k ∧ ¬ M 44 k ∧ ¬ M 45 k) : LB42 W O n A B := by
  refine ⟨by rw [fa _ _ hl.1]; exact h.1, fun j hj => ?_⟩
  rw [fb _ _ (hm j).1, fb _ _ (hm j).2.1, fb _ _ (hm j).2.2, fa _ _ (hl.2 j)]
  exact h.2 j hj
theorem CB42.f {S : Nat → Nat → Prop} {A : gj_I} {B : gj_J} {L M : Nat → Nat → Prop} (h : CB42 S W n SI SJ) (fa : FI L SI A) (fb : FJ M SJ B) (hl : ∀ k, ¬ L 50 k ∧ ¬ L 51 k) (hm : ∀ k, ¬ M 47 k ∧ ¬ M 48 k ∧ ¬ M 49 k) : CB42 S W n A B := by
  intro i j h1 h2 h3
  rw [fb _ _ (hm _).1, fb _ _ (hm _).2.1, fb _ _ (hm _).2.2, fa _ _ (hl _).1, fa _ _ (hl _).2]
  exact h i j h1 h2 h3
theorem sp_clear42 {Q : gj_I → gj_J → Prop} (h : Q (gj_u2 SI 42 9 (i3 0)) SJ) : DoV E 0 [(.ref 42)] SI SJ Q := st_0_42 SI SJ h
theorem LB42.add {SJ2 : gj_J} {x1 x2 x3 : Int64} {y : Int32} (h : LB42 W O n SI SJ) (e1 : x1 = i6 (W n).1) (e2 : x2 = i6 (W n).2.1) (e3 : x3 = i6 (W n).2.2) (e4 : y = i3 (O n)) (e5 : SJ2 = gj_w2 (gj_w2 (gj_w2 SJ 43 n x1) 44 n x2) 45 n x3) : LB42 W O (n + 1) (gj_u2 (gj_u2 SI 46 n y) 42 9 (i3 ((n + 1 : Nat) : Int))) SJ2 := by
  subst e1; subst e2; subst e3; subst e4; subst e5
  refine ⟨u2_s, fun j hj => ?_⟩
  rw [u2_n (by omega)]
  rcases Nat.lt_or_ge j n with q | q
  · obtain ⟨h1, h2, h3, h4⟩ := h.2 j q
    refine ⟨?_, ?_, ?_, ?_⟩
    · rw [w2_n (by omega), w2_n (by omega), w2_n (by omega)]; exact h1
    · rw [w2_n (by omega), w2_n (by omega), w2_n (by omega)]; exact h2
    · rw [w2_n (by omega), w2_n (by omega), w2_n (by omega)]; exact h3
    · rw [u2_n (by omega)]; exact h4
  · have : j = n := by omega
    subst this
    refine ⟨?_, ?_, ?_, ?_⟩
    · rw [w2_n (by omega), w2_n (by omega), w2_s]
    · rw [w2_n (by omega), w2_s]
    · rw [w2_s]
    · rw [u2_s]
def LIa42 (o k : Nat) : Prop := o = 46 ∨ (o = 42 ∧ k = 9)
def LJa42 (o _k : Nat) : Prop := o = 43 ∨ o = 44 ∨ o = 45
theorem sp_add42 {Q : gj_I → gj_J → Prop} {a b c d : Int32} (hL : LB42 W O n SI SJ) (hn : n < 14) (hb : (W n).1.natAbs ≤ 100000 ∧ (W n).2.1.natAbs ≤ 100000 ∧ (W n).2.2.natAbs ≤ 100000) (e1 : a = i3 (O n)) (e2 : b = i3 (W n).1) (e3 : c = i3 (W n).2.1) (e4 : d = i3 (W n).2.2) (h : ∀ SI' SJ', FI LIa42 SI SI' → FJ LJa42 SJ SJ' → LB42 W O (n + 1) SI' SJ' → Q SI' SJ') : DoV E 1 [(.ref 42), (.int a), (.int b), (.int c), (.int d)] SI SJ Q := by
  subst e1; subst e2; subst e3; subst e4
  refine st_1_42 _ _ _ _ SI SJ ?_
  rw [hL.1, i3_lt (by omega) (by omega) (by omega) (by omega)]
  refine ⟨fun _ => ⟨by rw [i3_in (by omega) (by omega)]; omega, ?_⟩, fun c => by omega⟩
  rw [i3_n (by omega) (by omega), show ((n : Nat) : Int).toNat = n by omega, i3_64 (by omega) (by omega), i3_64 (by omega) (by omega), i3_64 (by omega) (by omega), i3_add]
  exact h _ _ ((FI.rf.u (Or.inl rfl)).u (Or.inr ⟨rfl, rfl⟩)) (((FJ.rf.w (Or.inl rfl)).w (Or.inr (Or.inl rfl))).w (Or.inr (Or.inr rfl))) (hL.add rfl rfl rfl rfl rfl)
theorem sp_everyone42 {Q : Int32 → gj_I → gj_J → Prop} (hL : SI 42 9 = i3 n) (hn : n ≤ 14) (h : Q (i3 (fullS n : Nat)) SI SJ) : DoI E 3 [(.ref 42)] SI SJ Q := by
  refine st_3_42 SI SJ ?_
  have h2 : 1 ≤ 2 ^ n := Nat.one_le_two_pow
  rw [hL, i3_shl (by omega), i3_sub]
  unfold fullS at h
  rw [show ((2 ^ n : Nat) : Int) - 1 = ((2 ^ n - 1 : Nat) : Int) by omega]
  exact h
theorem sp_volume42 {Q : Int64 → gj_I → gj_J → Prop} {a b : Int32} {p : V3} (hL : LB42 W O n SI SJ) (hn : n ≤ 14) (k c : Nat) (hk : k < n) (hc : c < 91) (c1 : SJ 47 c = i6 p.1) (c2 : SJ 48 c = i6 p.2.1) (c3 : SJ 49 c = i6 p.2.2) (ha : a = i3 k) (hb : b = i3 c) (h : Q (i6 (dot (W k) p)) SI SJ) : DoL E 7 [(.ref 42), (.int a), (.int b)] SI SJ Q := by
  subst ha; subst hb
  obtain ⟨h1, h2, h3, -⟩ := hL.2 k hk
  refine st_7_42 _ _ SI SJ ?_
  rw [i3_in (by omega) (by omega), i3_in (by omega) (by omega), i3_n (by omega) (by omega), i3_n (by omega) (by omega), show ((k : Nat) : Int).toNat = k by omega, show ((c : Nat) : Int).toNat = c by omega, h1, h2, h3, c1, c2, c3]
  simp only [i6_mul, i6_add]
  exact ⟨by omega, by omega, h⟩
theorem sp_sort42 {Q : gj_I → gj_J → Prop} {a : Int32} {p : V3} (hL : LB42 W O n SI SJ) (hn : n ≤ 14) (hB : Wb W n) (hp : Pb p) (c : Nat) (hc : c < 91) (c1 : SJ 47 c = i6 p.1) (c2 : SJ 48 c = i6 p.2.1) (c3 : SJ 49 c = i6 p.2.2) (ha : a = i3 c) (h : Q (gj_u2 (gj_u2 SI 50 c (i3 (abS W p n : Nat))) 51 c (i3 (beS W p n : Nat))) SJ) : DoV E 6 [(.ref 42), (.int a)] SI SJ Q := by
  subst ha
  refine st_6_42 _ SI SJ ⟨by rw [i3_in (by omega) (by omega)]; omega, ?_⟩
  rw [i3_n (by omega) (by omega), show ((c : Nat) : Int).toNat = c by omega, c1, c2, c3]
  refine up_lp (α := Unit) (P := fun i _ A B => A = SI ∧ B = SJ) (G := fun i _ A B => GoV E mt_6 32 [some (.ref 42), some (.int (i3 (c : Nat))), some (.long (i6 p.1)), none, some (.long (i6 p.2.1)), none, some (.long (i6 p.2.2)), none, some (.int (i3 (abS W p i : Nat))), some (.int (i3 (beS W p i : Nat))), some (.int (i3 i)), none, none] A B Q) n ?_ ?_ 0 () SI SJ (by omega) ⟨rfl, rfl⟩
  · rintro _ A B ⟨rfl, rfl⟩
    refine lp_6_32_42 _ _ _ _ _ _ _ A B ⟨fun _ => ⟨by rw [i3_in (by omega) (by omega)]; omega, ?_⟩, fun q => ?_⟩
    · rw [i3_n (by omega) (by omega), show ((c : Nat) : Int).toNat = c by omega]; exact h
    · rw [hL.1, i3_le (by omega) (by omega) (by omega) (by omega)] at q; omega
  · rintro i _ A B hi ⟨rfl, rfl⟩ ih
    have nx := ih () A B ⟨rfl, rfl⟩
    have d := dot_b hB hi hp
    rw [dot_com] at d
    have ea : abS W p (i + 1) = if 0 < dot (W i) p then abS W p i ||| 2 ^ i else abS W p i := rfl
    have eb : beS W p (i + 1) = if dot (W i) p < 0 then beS W p i ||| 2 ^ i else beS W p i := rfl
    rw [ea, eb] at nx
    obtain ⟨w1, w2, w3, -⟩ := hL.2 i hi
    refine lp_6_32_42 _ _ _ _ _ _ _ A B ⟨fun q => ?_, fun q => ⟨by rw [i3_in (by omega) (by omega)]; omega, ?_⟩⟩
    · rw [hL.1, i3_le (by omega) (by omega) (by omega) (by omega)] at q; omega
    · rw [i3_n (by omega) (by omega), show ((i : Nat) : Int).toNat = i by omega, w1, w2, w3]
      simp only [i6_mul, i6_add]
      rw [show (W i).1 * p.1 + (W i).2.1 * p.2.1 + (W i).2.2 * p.2.2 = dot (W i) p from rfl, i6_le (by omega) (by omega) (by omega) (by omega), ge_iff_le, i6_le (by omega) (by omega) (by omega) (by omega), i3_add, i3_shl (by omega), i3_or, i3_or]
      refine ⟨fun y => ⟨fun y2 => ?_, fun y2 => ?_⟩, fun y => ?_⟩
      · rw [if_neg (by omega), if_neg (by omega)] at nx; exact nx
      · rw [if_neg (by omega), if_pos (by omega)] at nx; exact nx
      · rw [if_pos (by omega), if_neg (by omega)] at nx; exact nx
theorem sp_pair42 {Q : gj_I → gj_J → Prop} (hL : LB42 W O n SI SJ) (hn : n ≤ 14) (hB : Wb W n) (h : ∀ SI' SJ', FI LIb42 SI SI' → FJ LJb42 SJ SJ' → LB42 W O n SI' SJ' → PB42 W n SI' SJ' → Q SI' SJ') : DoV E 5 [(.ref 42)] SI SJ Q := by
  refine st_5_42 SI SJ ?_
  let HR : Nat → Nat → gj_I → gj_J → Prop := fun i j A B => FI LIb42 SI A ∧ FJ LJb42 SJ B ∧ CB42 (seenP i j) W n A B
  have lb : ∀ i j A B, HR i j A B → LB42 W O n A B := fun i j A B g => hL.f g.1 g.2.1 (by unfold LIb42; exact ⟨by omega, fun k => by omega⟩) (by intro k; unfold LJb42; omega)
  have inner : ∀ (i : Nat) (A : gj_I) (B : gj_J), i < n → HR i (i + 1) A B → (∀ A' B', HR (i + 1) 0 A' B' → GoV E mt_5 2 [some (.ref 42), some (.int (i3 ((i + 1 : Nat) : Int))), none, none] A' B' Q) → GoV E mt_5 14 [some (.ref 42), some (.int (i3 (i : Nat))), some (.int (i3 ((i + 1 : Nat) : Int))), none] A B Q := by
    intro i A B hi hH hc
    refine up_lp (α := Unit) (P := fun j _ A B => HR i j A B ∧ i < j) (G := fun j _ A B => GoV E mt_5 14 [some (.ref 42), some (.int (i3 (i : Nat))), some (.int (i3 (j : Nat))), none] A B Q) n ?_ ?_ (i + 1) () A B (by omega) ⟨hH, by omega⟩
    · rintro _ A B ⟨hH, hij⟩
      have hLA := lb _ _ _ _ hH
      refine lp_5_14_42 _ _ A B ⟨fun _ => ?_, fun q => ?_⟩
      · rw [i3_add]
        refine hc A B ⟨hH.1, hH.2.1, fun a b h1 h2 h3 => hH.2.2 a b h1 h2 ?_⟩
        unfold seenP at h3 ⊢; omega
      · rw [hLA.1, i3_le (by omega) (by omega) (by omega) (by omega)] at q; omega
    · rintro j _ A B hj ⟨hH, hij⟩ ih
      have hLA := lb _ _ _ _ hH
      have cb := cpl_b hij (show j < 14 by omega)
      obtain ⟨x1, x2, x3, -⟩ := hLA.2 i hi
      obtain ⟨y1, y2, y3, -⟩ := hLA.2 j hj
      refine lp_5_14_42 _ _ A B ⟨fun q => ?_, fun q => sp_couple i j (by omega) rfl rfl ?_⟩
      · rw [hLA.1, i3_le (by omega) (by omega) (by omega) (by omega)] at q; omega
      · rw [i3_in (by omega) (by omega), i3_in (by omega) (by omega), i3_in (by omega) (by omega), i3_n (by omega) (by omega), i3_n (by omega) (by omega), i3_n (by omega) (by omega), show ((i : Nat) : Int).toNat = i by omega, show ((j : Nat) : Int).toNat = j by omega, show ((cpl i j : Nat) : Int).toNat = cpl i j by omega, x1, x2, x3, y1, y2, y3]
        simp only [i6_mul, i6_sub]
        rw [show (W i).2.1 * (W j).2.2 - (W i).2.2 * (W j).2.1 = (crs (W i) (W j)).1 from rfl, show (W i).2.2 * (W j).1 - (W i).1 * (W j).2.2 = (crs (W i) (W j)).2.1 from rfl, show (W i).1 * (W j).2.1 - (W i).2.1 * (W j).1 = (crs (W i) (W j)).2.2 from rfl]
        refine ⟨by omega, by omega, by omega, ?_⟩
        have fJ : FJ LJb42 SJ (gj_w2 (gj_w2 (gj_w2 B 47 (cpl i j) (i6 (crs (W i) (W j)).1)) 48 (cpl i j) (i6 (crs (W i) (W j)).2.1)) 49 (cpl i j) (i6 (crs (W i) (W j)).2.2)) := ((hH.2.1.w (Or.inl rfl)).w (Or.inr (Or.inl rfl))).w (Or.inr (Or.inr rfl))
        have hL2 : LB42 W O n A (gj_w2 (gj_w2 (gj_w2 B 47 (cpl i j) (i6 (crs (W i) (W j)).1)) 48 (cpl i j) (i6 (crs (W i) (W j)).2.1)) 49 (cpl i j) (i6 (crs (W i) (W j)).2.2)) := hL.f hH.1 fJ (by unfold LIb42; exact ⟨by omega, fun k => by omega⟩) (by intro k; unfold LJb42; omega)
        refine sp_sort42 hL2 hn hB (crs_b hB hi hj) (cpl i j) cb (by rw [w2_n (by omega), w2_n (by omega), w2_s]) (by rw [w2_n (by omega), w2_s]) (by rw [w2_s]) rfl ?_
        rw [i3_add]
        refine ih () _ _ ⟨⟨(hH.1.u (Or.inl rfl)).u (Or.inr rfl), fJ, fun a b h1 h2 h3 => ?_⟩, by omega⟩
        by_cases e : a = i ∧ b = j
        · rw [e.1, e.2]
          refine ⟨by rw [w2_n (by omega), w2_n (by omega), w2_s], by rw [w2_n (by omega), w2_s], by rw [w2_s], by rw [u2_n (by omega), u2_s], by rw [u2_s]⟩
        · have ne : cpl a b ≠ cpl i j := fun z => e (cpl_un h1 hij z)
          rw [w2_n (by omega), w2_n (by omega), w2_n (by omega), w2_n (by omega), w2_n (by omega), w2_n (by omega), w2_n (by omega), w2_n (by omega), w2_n (by omega), u2_n (by omega), u2_n (by omega), u2_n (by omega), u2_n (by omega)]
          refine hH.2.2 a b h1 h2 ?_
          unfold seenP at h3 ⊢; omega
  refine up_lp (α := Unit) (P := fun i _ A B => HR i 0 A B) (G := fun i _ A B => GoV E mt_5 2 [some (.ref 42), some (.int (i3 (i : Nat))), none, none] A B Q) n ?_ ?_ 0 () SI SJ (by omega) ⟨FI.rf, FJ.rf, fun a b h1 h2 h3 => by unfold seenP at h3; omega⟩
  · rintro _ A B hH
    have hLA := lb _ _ _ _ hH
    refine lp_5_2_42 _ A B ⟨fun _ => h A B hH.1 hH.2.1 hLA (fun a b h1 h2 _ => hH.2.2 a b h1 h2 (by unfold seenP; omega)), fun q => ?_⟩
    rw [hLA.1, i3_le (by omega) (by omega) (by omega) (by omega)] at q; omega
  · rintro i _ A B hi hH ih
    have hLA := lb _ _ _ _ hH
    refine lp_5_2_42 _ A B ⟨fun q => ?_, fun q => ?_⟩
    · rw [hLA.1, i3_le (by omega) (by omega) (by omega) (by omega)] at q; omega
    · rw [i3_add]
      refine inner i A B hi ⟨hH.1, hH.2.1, fun a b h1 h2 h3 => hH.2.2 a b h1 h2 ?_⟩ (fun A' B' hH' => ih () A' B' hH')
      unfold seenP at h3 ⊢; omega
theorem sp_isPlane42 {Q : Int32 → gj_I → gj_J → Prop} {a : Int32} {p : V3} (hp : Pb p) (c : Nat) (hc : c < 91) (c1 : SJ 47 c = i6 p.1) (c2 : SJ 48 c = i6 p.2.1) (c3 : SJ 49 c = i6 p.2.2) (ha : a = i3 c) (h : Q (ibc (p ≠ (0, 0, 0))) SI SJ) : DoI E 8 [(.ref 42), (.int a)] SI SJ Q := by
  subst ha
  obtain ⟨b1, b2, b3⟩ := hp
  refine st_8_42 _ SI SJ ?_
  rw [i3_in (by omega) (by omega), i3_n (by omega) (by omega), show ((c : Nat) : Int).toNat = c by omega, c1, c2, c3, i6_eq (by omega) (by omega) (by omega) (by omega), i6_eq (by omega) (by omega) (by omega) (by omega), i6_eq (by omega) (by omega) (by omega) (by omega)]
  refine ⟨by omega, fun y => ?_, fun y => ⟨fun y2 => ?_, fun y2 => ⟨fun y3 => ?_, fun y3 => ?_⟩⟩⟩
  · rw [ibc_t (p := p ≠ (0, 0, 0)) (fun z => y (by rw [z]))] at h; exact h
  · rw [ibc_t (p := p ≠ (0, 0, 0)) (fun z => y2 (by rw [z]))] at h; exact h
  · have e : p = (0, 0, 0) := by obtain ⟨p1, p2, p3⟩ := p; simp only at y y2 y3; rw [y, y2, y3]
    rw [ibc_f (fun z => z e)] at h; exact h
  · rw [ibc_t (p := p ≠ (0, 0, 0)) (fun z => y3 (by rw [z]))] at h; exact h
end Bundle42
def LB66 (W : Nat → V3) (O : Nat → Int) (n : Nat) (SI : gj_I) (SJ : gj_J) : Prop := SI 66 9 = i3 n ∧ ∀ j, j < n → SJ 67 j = i6 (W j).1 ∧ SJ 68 j = i6 (W j).2.1 ∧ SJ 69 j = i6 (W j).2.2 ∧ SI 70 j = i3 (O j)
/-- the cross products of couples in S, which wrenches lie above and below -/
def CB66 (S : Nat → Nat → Prop) (W : Nat → V3) (n : Nat) (SI : gj_I) (SJ : gj_J) : Prop := ∀ i j, i < j → j < n → S i j → SJ 71 (cpl i j) = i6 (crs (W i) (W j)).1 ∧ SJ 72 (cpl i j) = i6 (crs (W i) (W j)).2.1 ∧ SJ 73 (cpl i j) = i6 (crs (W i) (W j)).2.2 ∧ SI 74 (cpl i j) = i3 (abS W (crs (W i) (W j)) n : Nat) ∧ SI 75 (cpl i j) = i3 (beS W (crs (W i) (W j)) n : Nat)
def PB66 (W : Nat → V3) (n : Nat) (SI : gj_I) (SJ : gj_J) : Prop := CB66 (fun _ _ => True) W n SI SJ
def LIb66 (o _k : Nat) : Prop := o = 74 ∨ o = 75
def LJb66 (o _k : Nat) : Prop := o = 71 ∨ o = 72 ∨ o = 73
section Bundle66
variable {E : gj_E} {SI : gj_I} {SJ : gj_J} {W : Nat → V3} {O : Nat → Int} {n : Nat}
theorem LB66.f {A : gj_I} {B : gj_J} {L M : Nat → Nat → Prop} (h : LB66 W O n SI SJ) (fa : FI L SI A) (fb : FJ M SJ B) (hl : ¬ L 66 9 ∧ ∀ k, ¬ L 70 k) (hm : ∀ k, ¬ M 67 k ∧ ¬ M 68 k ∧ ¬ M 69 k) : LB66 W O n A B := by
  refine ⟨by rw [fa _ _ hl.1]; exact h.1, fun j hj => ?_⟩
  rw [fb _ _ (hm j).1, fb _ _ (hm j).2.1, fb _ _ (hm j).2.2, fa _ _ (hl.2 j)]
  exact h.2 j hj
theorem CB66.f {S : Nat → Nat → Prop} {A : gj_I} {B : gj_J} {L M : Nat → Nat → Prop} (h : CB66 S W n SI SJ) (fa : FI L SI A) (fb : FJ M SJ B) (hl : ∀ k, ¬ L 74 k ∧ ¬ L 75 k) (hm : ∀ k, ¬ M 71 k ∧ ¬ M 72 k ∧ ¬ M 73 k) : CB66 S W n A B := by
  intro i j h1 h2 h3
  rw [fb _ _ (hm _).1, fb _ _ (hm _).2.1, fb _ _ (hm _).2.2, fa _ _ (hl _).1, fa _ _ (hl _).2]
  exact h i j h1 h2 h3
theorem sp_clear66 {Q : gj_I → gj_J → Prop} (h : Q (gj_u2 SI 66 9 (i3 0)) SJ) : DoV E 0 [(.ref 66)] SI SJ Q := st_0_66 SI SJ h
theorem LB66.add {SJ2 : gj_J} {x1 x2 x3 : Int64} {y : Int32} (h : LB66 W O n SI SJ) (e1 : x1 = i6 (W n).1) (e2 : x2 = i6 (W n).2.1) (e3 : x3 = i6 (W n).2.2) (e4 : y = i3 (O n)) (e5 : SJ2 = gj_w2 (gj_w2 (gj_w2 SJ 67 n x1) 68 n x2) 69 n x3) : LB66 W O (n + 1) (gj_u2 (gj_u2 SI 70 n y) 66 9 (i3 ((n + 1 : Nat) : Int))) SJ2 := by
  subst e1; subst e2; subst e3; subst e4; subst e5
  refine ⟨u2_s, fun j hj => ?_⟩
  rw [u2_n (by omega)]
  rcases Nat.lt_or_ge j n with q | q
  · obtain ⟨h1, h2, h3, h4⟩ := h.2 j q
    refine ⟨?_, ?_, ?_, ?_⟩
    · rw [w2_n (by omega), w2_n (by omega), w2_n (by omega)]; exact h1
    · rw [w2_n (by omega), w2_n (by omega), w2_n (by omega)]; exact h2
    · rw [w2_n (by omega), w2_n (by omega), w2_n (by omega)]; exact h3
    · rw [u2_n (by omega)]; exact h4
  · have : j = n := by omega
    subst this
    refine ⟨?_, ?_, ?_, ?_⟩
    · rw [w2_n (by omega), w2_n (by omega), w2_s]
    · rw [w2_n (by omega), w2_s]
    · rw [w2_s]
    · rw [u2_s]
def LIa66 (o k : Nat) : Prop := o = 70 ∨ (o = 66 ∧ k = 9)
def LJa66 (o _k : Nat) : Prop := o = 67 ∨ o = 68 ∨ o = 69
theorem sp_add66 {Q : gj_I → gj_J → Prop} {a b c d : Int32} (hL : LB66 W O n SI SJ) (hn : n < 14) (hb : (W n).1.natAbs ≤ 100000 ∧ (W n).2.1.natAbs ≤ 100000 ∧ (W n).2.2.natAbs ≤ 100000) (e1 : a = i3 (O n)) (e2 : b = i3 (W n).1) (e3 : c = i3 (W n).2.1) (e4 : d = i3 (W n).2.2) (h : ∀ SI' SJ', FI LIa66 SI SI' → FJ LJa66 SJ SJ' → LB66 W O (n + 1) SI' SJ' → Q SI' SJ') : DoV E 1 [(.ref 66), (.int a), (.int b), (.int c), (.int d)] SI SJ Q := by
  subst e1; subst e2; subst e3; subst e4
  refine st_1_66 _ _ _ _ SI SJ ?_
  rw [hL.1, i3_lt (by omega) (by omega) (by omega) (by omega)]
  refine ⟨fun _ => ⟨by rw [i3_in (by omega) (by omega)]; omega, ?_⟩, fun c => by omega⟩
  rw [i3_n (by omega) (by omega), show ((n : Nat) : Int).toNat = n by omega, i3_64 (by omega) (by omega), i3_64 (by omega) (by omega), i3_64 (by omega) (by omega), i3_add]
  exact h _ _ ((FI.rf.u (Or.inl rfl)).u (Or.inr ⟨rfl, rfl⟩)) (((FJ.rf.w (Or.inl rfl)).w (Or.inr (Or.inl rfl))).w (Or.inr (Or.inr rfl))) (hL.add rfl rfl rfl rfl rfl)
theorem sp_everyone66 {Q : Int32 → gj_I → gj_J → Prop} (hL : SI 66 9 = i3 n) (hn : n ≤ 14) (h : Q (i3 (fullS n : Nat)) SI SJ) : DoI E 3 [(.ref 66)] SI SJ Q := by
  refine st_3_66 SI SJ ?_
  have h2 : 1 ≤ 2 ^ n := Nat.one_le_two_pow
  rw [hL, i3_shl (by omega), i3_sub]
  unfold fullS at h
  rw [show ((2 ^ n : Nat) : Int) - 1 = ((2 ^ n - 1 : Nat) : Int) by omega]
  exact h
theorem sp_volume66 {Q : Int64 → gj_I → gj_J → Prop} {a b : Int32} {p : V3} (hL : LB66 W O n SI SJ) (hn : n ≤ 14) (k c : Nat) (hk : k < n) (hc : c < 91) (c1 : SJ 71 c = i6 p.1) (c2 : SJ 72 c = i6 p.2.1) (c3 : SJ 73 c = i6 p.2.2) (ha : a = i3 k) (hb : b = i3 c) (h : Q (i6 (dot (W k) p)) SI SJ) : DoL E 7 [(.ref 66), (.int a), (.int b)] SI SJ Q := by
  subst ha; subst hb
  obtain ⟨h1, h2, h3, -⟩ := hL.2 k hk
  refine st_7_66 _ _ SI SJ ?_
  rw [i3_in (by omega) (by omega), i3_in (by omega) (by omega), i3_n (by omega) (by omega), i3_n (by omega) (by omega), show ((k : Nat) : Int).toNat = k by omega, show ((c : Nat) : Int).toNat = c by omega, h1, h2, h3, c1, c2, c3]
  simp only [i6_mul, i6_add]
  exact ⟨by omega, by omega, h⟩
theorem sp_sort66 {Q : gj_I → gj_J → Prop} {a : Int32} {p : V3} (hL : LB66 W O n SI SJ) (hn : n ≤ 14) (hB : Wb W n) (hp : Pb p) (c : Nat) (hc : c < 91) (c1 : SJ 71 c = i6 p.1) (c2 : SJ 72 c = i6 p.2.1) (c3 : SJ 73 c = i6 p.2.2) (ha : a = i3 c) (h : Q (gj_u2 (gj_u2 SI 74 c (i3 (abS W p n : Nat))) 75 c (i3 (beS W p n : Nat))) SJ) : DoV E 6 [(.ref 66), (.int a)] SI SJ Q := by
  subst ha
  refine st_6_66 _ SI SJ ⟨by rw [i3_in (by omega) (by omega)]; omega, ?_⟩
  rw [i3_n (by omega) (by omega), show ((c : Nat) : Int).toNat = c by omega, c1, c2, c3]
  refine up_lp (α := Unit) (P := fun i _ A B => A = SI ∧ B = SJ) (G := fun i _ A B => GoV E mt_6 32 [some (.ref 66), some (.int (i3 (c : Nat))), some (.long (i6 p.1)), none, some (.long (i6 p.2.1)), none, some (.long (i6 p.2.2)), none, some (.int (i3 (abS W p i : Nat))), some (.int (i3 (beS W p i : Nat))), some (.int (i3 i)), none, none] A B Q) n ?_ ?_ 0 () SI SJ (by omega) ⟨rfl, rfl⟩
  · rintro _ A B ⟨rfl, rfl⟩
    refine lp_6_32_66 _ _ _ _ _ _ _ A B ⟨fun _ => ⟨by rw [i3_in (by omega) (by omega)]; omega, ?_⟩, fun q => ?_⟩
    · rw [i3_n (by omega) (by omega), show ((c : Nat) : Int).toNat = c by omega]; exact h
    · rw [hL.1, i3_le (by omega) (by omega) (by omega) (by omega)] at q; omega
  · rintro i _ A B hi ⟨rfl, rfl⟩ ih
    have nx := ih () A B ⟨rfl, rfl⟩
    have d := dot_b hB hi hp
    rw [dot_com] at d
    have ea : abS W p (i + 1) = if 0 < dot (W i) p then abS W p i ||| 2 ^ i else abS W p i := rfl
    have eb : beS W p (i + 1) = if dot (W i) p < 0 then beS W p i ||| 2 ^ i else beS W p i := rfl
    rw [ea, eb] at nx
    obtain ⟨w1, w2, w3, -⟩ := hL.2 i hi
    refine lp_6_32_66 _ _ _ _ _ _ _ A B ⟨fun q => ?_, fun q => ⟨by rw [i3_in (by omega) (by omega)]; omega, ?_⟩⟩
    · rw [hL.1, i3_le (by omega) (by omega) (by omega) (by omega)] at q; omega
    · rw [i3_n (by omega) (by omega), show ((i : Nat) : Int).toNat = i by omega, w1, w2, w3]
      simp only [i6_mul, i6_add]
      rw [show (W i).1 * p.1 + (W i).2.1 * p.2.1 + (W i).2.2 * p.2.2 = dot (W i) p from rfl, i6_le (by omega) (by omega) (by omega) (by omega), ge_iff_le, i6_le (by omega) (by omega) (by omega) (by omega), i3_add, i3_shl (by omega), i3_or, i3_or]
      refine ⟨fun y => ⟨fun y2 => ?_, fun y2 => ?_⟩, fun y => ?_⟩
      · rw [if_neg (by omega), if_neg (by omega)] at nx; exact nx
      · rw [if_neg (by omega), if_pos (by omega)] at nx; exact nx
      · rw [if_pos (by omega), if_neg (by omega)] at nx; exact nx
theorem sp_pair66 {Q : gj_I → gj_J → Prop} (hL : LB66 W O n SI SJ) (hn : n ≤ 14) (hB : Wb W n) (h : ∀ SI' SJ', FI LIb66 SI SI' → FJ LJb66 SJ SJ' → LB66 W O n SI' SJ' → PB66 W n SI' SJ' → Q SI' SJ') : DoV E 5 [(.ref 66)] SI SJ Q := by
  refine st_5_66 SI SJ ?_
  let HR : Nat → Nat → gj_I → gj_J → Prop := fun i j A B => FI LIb66 SI A ∧ FJ LJb66 SJ B ∧ CB66 (seenP i j) W n A B
  have lb : ∀ i j A B, HR i j A B → LB66 W O n A B := fun i j A B g => hL.f g.1 g.2.1 (by unfold LIb66; exact ⟨by omega, fun k => by omega⟩) (by intro k; unfold LJb66; omega)
  have inner : ∀ (i : Nat) (A : gj_I) (B : gj_J), i < n → HR i (i + 1) A B → (∀ A' B', HR (i + 1) 0 A' B' → GoV E mt_5 2 [some (.ref 66), some (.int (i3 ((i + 1 : Nat) : Int))), none, none] A' B' Q) → GoV E mt_5 14 [some (.ref 66), some (.int (i3 (i : Nat))), some (.int (i3 ((i + 1 : Nat) : Int))), none] A B Q := by
    intro i A B hi hH hc
    refine up_lp (α := Unit) (P := fun j _ A B => HR i j A B ∧ i < j) (G := fun j _ A B => GoV E mt_5 14 [some (.ref 66), some (.int (i3 (i : Nat))), some (.int (i3 (j : Nat))), none] A B Q) n ?_ ?_ (i + 1) () A B (by omega) ⟨hH, by omega⟩
    · rintro _ A B ⟨hH, hij⟩
      have hLA := lb _ _ _ _ hH
      refine lp_5_14_66 _ _ A B ⟨fun _ => ?_, fun q => ?_⟩
      · rw [i3_add]
        refine hc A B ⟨hH.1, hH.2.1, fun a b h1 h2 h3 => hH.2.2 a b h1 h2 ?_⟩
        unfold seenP at h3 ⊢; omega
      · rw [hLA.1, i3_le (by omega) (by omega) (by omega) (by omega)] at q; omega
    · rintro j _ A B hj ⟨hH, hij⟩ ih
      have hLA := lb _ _ _ _ hH
      have cb := cpl_b hij (show j < 14 by omega)
      obtain ⟨x1, x2, x3, -⟩ := hLA.2 i hi
      obtain ⟨y1, y2, y3, -⟩ := hLA.2 j hj
      refine lp_5_14_66 _ _ A B ⟨fun q => ?_, fun q => sp_couple i j (by omega) rfl rfl ?_⟩
      · rw [hLA.1, i3_le (by omega) (by omega) (by omega) (by omega)] at q; omega
      · rw [i3_in (by omega) (by omega), i3_in (by omega) (by omega), i3_in (by omega) (by omega), i3_n (by omega) (by omega), i3_n (by omega) (by omega), i3_n (by omega) (by omega), show ((i : Nat) : Int).toNat = i by omega, show ((j : Nat) : Int).toNat = j by omega, show ((cpl i j : Nat) : Int).toNat = cpl i j by omega, x1, x2, x3, y1, y2, y3]
        simp only [i6_mul, i6_sub]
        rw [show (W i).2.1 * (W j).2.2 - (W i).2.2 * (W j).2.1 = (crs (W i) (W j)).1 from rfl, show (W i).2.2 * (W j).1 - (W i).1 * (W j).2.2 = (crs (W i) (W j)).2.1 from rfl, show (W i).1 * (W j).2.1 - (W i).2.1 * (W j).1 = (crs (W i) (W j)).2.2 from rfl]
        refine ⟨by omega, by omega, by omega, ?_⟩
        have fJ : FJ LJb66 SJ (gj_w2 (gj_w2 (gj_w2 B 71 (cpl i j) (i6 (crs (W i) (W j)).1)) 72 (cpl i j) (i6 (crs (W i) (W j)).2.1)) 73 (cpl i j) (i6 (crs (W i) (W j)).2.2)) := ((hH.2.1.w (Or.inl rfl)).w (Or.inr (Or.inl rfl))).w (Or.inr (Or.inr rfl))
        have hL2 : LB66 W O n A (gj_w2 (gj_w2 (gj_w2 B 71 (cpl i j) (i6 (crs (W i) (W j)).1)) 72 (cpl i j) (i6 (crs (W i) (W j)).2.1)) 73 (cpl i j) (i6 (crs (W i) (W j)).2.2)) := hL.f hH.1 fJ (by unfold LIb66; exact ⟨by omega, fun k => by omega⟩) (by intro k; unfold LJb66; omega)
        refine sp_sort66 hL2 hn hB (crs_b hB hi hj) (cpl i j) cb (by rw [w2_n (by omega), w2_n (by omega), w2_s]) (by rw [w2_n (by omega), w2_s]) (by rw [w2_s]) rfl ?_
        rw [i3_add]
        refine ih () _ _ ⟨⟨(hH.1.u (Or.inl rfl)).u (Or.inr rfl), fJ, fun a b h1 h2 h3 => ?_⟩, by omega⟩
        by_cases e : a = i ∧ b = j
        · rw [e.1, e.2]
          refine ⟨by rw [w2_n (by omega), w2_n (by omega), w2_s], by rw [w2_n (by omega), w2_s], by rw [w2_s], by rw [u2_n (by omega), u2_s], by rw [u2_s]⟩
        · have ne : cpl a b ≠ cpl i j := fun z => e (cpl_un h1 hij z)
          rw [w2_n (by omega), w2_n (by omega), w2_n (by omega), w2_n (by omega), w2_n (by omega), w2_n (by omega), w2_n (by omega), w2_n (by omega), w2_n (by omega), u2_n (by omega), u2_n (by omega), u2_n (by omega), u2_n (by omega)]
          refine hH.2.2 a b h1 h2 ?_
          unfold seenP at h3 ⊢; omega
  refine up_lp (α := Unit) (P := fun i _ A B => HR i 0 A B) (G := fun i _ A B => GoV E mt_5 2 [some (.ref 66), some (.int (i3 (i : Nat))), none, none] A B Q) n ?_ ?_ 0 () SI SJ (by omega) ⟨FI.rf, FJ.rf, fun a b h1 h2 h3 => by unfold seenP at h3; omega⟩
  · rintro _ A B hH
    have hLA := lb _ _ _ _ hH
    refine lp_5_2_66 _ A B ⟨fun _ => h A B hH.1 hH.2.1 hLA (fun a b h1 h2 _ => hH.2.2 a b h1 h2 (by unfold seenP; omega)), fun q => ?_⟩
    rw [hLA.1, i3_le (by omega) (by omega) (by omega) (by omega)] at q; omega
  · rintro i _ A B hi hH ih
    have hLA := lb _ _ _ _ hH
    refine lp_5_2_66 _ A B ⟨fun q => ?_, fun q => ?_⟩
    · rw [hLA.1, i3_le (by omega) (by omega) (by omega) (by omega)] at q; omega
    · rw [i3_add]
      refine inner i A B hi ⟨hH.1, hH.2.1, fun a b h1 h2 h3 => hH.2.2 a b h1 h2 ?_⟩ (fun A' B' hH' => ih () A' B' hH')
      unfold seenP at h3 ⊢; omega
theorem sp_isPlane66 {Q : Int32 → gj_I → gj_J → Prop} {a : Int32} {p : V3} (hp : Pb p) (c : Nat) (hc : c < 91) (c1 : SJ 71 c = i6 p.1) (c2 : SJ 72 c = i6 p.2.1) (c3 : SJ 73 c = i6 p.2.2) (ha : a = i3 c) (h : Q (ibc (p ≠ (0, 0, 0))) SI SJ) : DoI E 8 [(.ref 66), (.int a)] SI SJ Q := by
  subst ha
  obtain ⟨b1, b2, b3⟩ := hp
  refine st_8_66 _ SI SJ ?_
  rw [i3_in (by omega) (by omega), i3_n (by omega) (by omega), show ((c : Nat) : Int).toNat = c by omega, c1, c2, c3, i6_eq (by omega) (by omega) (by omega) (by omega), i6_eq (by omega) (by omega) (by omega) (by omega), i6_eq (by omega) (by omega) (by omega) (by omega)]
  refine ⟨by omega, fun y => ?_, fun y => ⟨fun y2 => ?_, fun y2 => ⟨fun y3 => ?_, fun y3 => ?_⟩⟩⟩
  · rw [ibc_t (p := p ≠ (0, 0, 0)) (fun z => y (by rw [z]))] at h; exact h
  · rw [ibc_t (p := p ≠ (0, 0, 0)) (fun z => y2 (by rw [z]))] at h; exact h
  · have e : p = (0, 0, 0) := by obtain ⟨p1, p2, p3⟩ := p; simp only at y y2 y3; rw [y, y2, y3]
    rw [ibc_f (fun z => z e)] at h; exact h
  · rw [ibc_t (p := p ≠ (0, 0, 0)) (fun z => y3 (by rw [z]))] at h; exact h
end Bundle66
