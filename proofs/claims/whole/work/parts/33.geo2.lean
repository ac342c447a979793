/-! 33: the reference's plate, second half -/
noncomputable def ibc (p : Prop) : Int32 := @ite _ p (Classical.propDecidable p) (i3 1) (i3 0)
theorem ibc_t {p : Prop} (h : p) : ibc p = i3 1 := if_pos h
theorem ibc_f {p : Prop} (h : ¬ p) : ibc p = i3 0 := if_neg h
theorem ibc_0 {p : Prop} : ibc p = 0 ↔ ¬ p := by
  by_cases h : p
  · rw [ibc_t h]; exact ⟨fun q => absurd q (by decide), fun q => absurd h q⟩
  · rw [ibc_f h]; exact ⟨fun _ => h, fun _ => rfl⟩
theorem ibc_01 {p : Prop} : ibc p = 0 ∨ ibc p = 1 := by
  by_cases h : p
  · rw [ibc_t h]; exact Or.inr rfl
  · rw [ibc_f h]; exact Or.inl rfl
theorem ibc_c {p q : Prop} (h : p ↔ q) : ibc p = ibc q := by rw [propext h]
theorem ib_ibc {p : Prop} [Decidable p] : ib p = ibc p := by
  by_cases h : p
  · rw [ib_t h, ibc_t h]
  · rw [ib_f h, ibc_f h]
def btw (F : Nat → Int) (e : Nat) (x y : Int) : Prop := sd F e (e + 1) x y = 0 ∧ min (cx F e) (cx F (e + 1)) ≤ x ∧ x ≤ max (cx F e) (cx F (e + 1)) ∧ min (cy F e) (cy F (e + 1)) ≤ y ∧ y ≤ max (cy F e) (cy F (e + 1))
def mtg (F : Nat → Int) (e f : Nat) : Prop := ((sd F e (e + 1) (cx F f) (cy F f)).sign * (sd F e (e + 1) (cx F (f + 1)) (cy F (f + 1))).sign < 0 ∧ (sd F f (f + 1) (cx F e) (cy F e)).sign * (sd F f (f + 1) (cx F (e + 1)) (cy F (e + 1))).sign < 0) ∨ btw F e (cx F f) (cy F f) ∨ btw F e (cx F (f + 1)) (cy F (f + 1)) ∨ btw F f (cx F e) (cy F e) ∨ btw F f (cx F (e + 1)) (cy F (e + 1))
def ar (F : Nat → Int) : Nat → Int
  | 0 => 0
  | i + 1 => ar F i + cx F i * cy F (i + 1) - cx F (i + 1) * cy F i
theorem mul_b {a b : Int} {m n : Nat} (ha : a.natAbs ≤ m) (hb : b.natAbs ≤ n) : (a * b).natAbs ≤ m * n := by rw [Int.natAbs_mul]; exact Nat.mul_le_mul ha hb
theorem sd_b {F : Nat → Int} (hW : Wc F) (i j : Nat) {u v : Int} (hu : -100 ≤ u ∧ u ≤ 100) (hv : -100 ≤ v ∧ v ≤ 100) : -3000 ≤ sd F i j u v ∧ sd F i j u v ≤ 3000 := by
  have h1 := hW.b i; have h2 := hW.b j
  have h3 := mul_b (a := cx F j - cx F i) (b := v - cy F i) (m := 9) (n := 120) (by omega) (by omega)
  have h4 := mul_b (a := cy F j - cy F i) (b := u - cx F i) (m := 9) (n := 120) (by omega) (by omega)
  unfold sd; omega
theorem ar_b {F : Nat → Int} (hW : Wc F) (i : Nat) : (ar F i).natAbs ≤ 162 * i := by
  induction i with
  | zero => simp [ar]
  | succ i ih =>
    have h1 := hW.b i; have h2 := hW.b (i + 1)
    have h3 := mul_b (a := cx F i) (b := cy F (i + 1)) (m := 9) (n := 9) (by omega) (by omega)
    have h4 := mul_b (a := cx F (i + 1)) (b := cy F i) (m := 9) (n := 9) (by omega) (by omega)
    unfold ar; omega
theorem sign_b (a : Int) : -1 ≤ a.sign ∧ a.sign ≤ 1 := by
  rcases Int.lt_trichotomy a 0 with h | h | h
  · rw [Int.sign_eq_neg_one_of_neg h]; omega
  · rw [h]; decide
  · rw [Int.sign_eq_one_of_pos h]; omega
section Geo2
variable {E : gj_E} {SI : gj_I} {SJ : gj_J} {F : Nat → Int}
theorem sp_isBetween {Q : Int32 → gj_I → gj_J → Prop} {a x y : Int32} (hR : RF F SI) (hW : Wc F) (e : Nat) (u v : Int) (he : e < 800) (hu : -100 ≤ u ∧ u ≤ 100) (hv : -100 ≤ v ∧ v ≤ 100) (ha : a = i3 e) (hx : x = i3 u) (hy : y = i3 v) (h : Q (ibc (btw F e u v)) SI SJ) : DoI E 172 [(.ref 81), (.int a), (.int x), (.int y)] SI SJ Q := by
  subst ha; subst hx; subst hy
  have h1 := hW.b e; have h2 := hW.b (e + 1)
  have h3 := sd_b hW e (e + 1) hu hv
  refine st_172 _ _ _ SI SJ ?_
  rw [i3_add]
  refine sp_sideOf hR hW e (e + 1) u v (by omega) (by omega) hu hv rfl (i3_c (by omega)) rfl rfl ⟨fun c => ?_, fun c => ?_⟩
  · rw [i6_eq (by omega) (by omega) (by omega) (by omega)] at c
    refine sp_cornerX hR hW e (by omega) rfl (sp_cornerX hR hW (e + 1) (by omega) (i3_c (by omega)) (sp_min (by omega) (by omega) (by omega) (by omega) (sp_cornerX hR hW e (by omega) rfl (sp_cornerX hR hW (e + 1) (by omega) (i3_c (by omega)) (sp_max (by omega) (by omega) (by omega) (by omega) ?_)))))
    rw [i3_64 (by omega) (by omega), i3_64 (by omega) (by omega), i3_64 (by omega) (by omega)]
    refine sp_in (by omega) (by omega) (by omega) (by omega) (by omega) (by omega) ⟨fun c2 => ?_, fun c2 => ?_⟩
    · rw [ib_0] at c2
      rw [ibc_f (fun z => c2 ⟨z.2.1, z.2.2.1⟩)] at h; exact h
    · rw [ib_0, Decidable.not_not] at c2
      refine sp_cornerY hR hW e (by omega) rfl (sp_cornerY hR hW (e + 1) (by omega) (i3_c (by omega)) (sp_min (by omega) (by omega) (by omega) (by omega) (sp_cornerY hR hW e (by omega) rfl (sp_cornerY hR hW (e + 1) (by omega) (i3_c (by omega)) (sp_max (by omega) (by omega) (by omega) (by omega) ?_)))))
      rw [i3_64 (by omega) (by omega), i3_64 (by omega) (by omega), i3_64 (by omega) (by omega)]
      refine sp_in (by omega) (by omega) (by omega) (by omega) (by omega) (by omega) ⟨fun c3 => ?_, fun c3 => ?_⟩
      · rw [ib_0] at c3
        rw [ibc_f (fun z => c3 ⟨z.2.2.2.1, z.2.2.2.2⟩)] at h; exact h
      · rw [ib_0, Decidable.not_not] at c3
        rw [ibc_t ⟨c, c2.1, c2.2, c3.1, c3.2⟩] at h; exact h
  · rw [i6_eq (by omega) (by omega) (by omega) (by omega)] at c
    rw [ibc_f (fun z => c z.1)] at h; exact h
theorem sp_areaTwice {Q : Int64 → gj_I → gj_J → Prop} (hR : RF F SI) (hW : Wc F) (h : Q (i6 (ar F (nC F))) SI SJ) : DoL E 174 [(.ref 81)] SI SJ Q := by
  obtain ⟨n1, n2, n3⟩ := hW.n
  refine st_174 SI SJ ?_
  have key : ∀ (d i : Nat), i + d = nC F → GoL E mt_174 4 [some (.ref 81), some (.long (i6 (ar F i))), none, some (.int (i3 i))] SI SJ Q := by
    intro d
    induction d with
    | zero =>
      intro i hi
      refine lp_174_4 _ _ SI SJ (sp_corners hR ⟨fun _ => ?_, fun c => ?_⟩)
      · rw [show i = nC F by omega]; exact h
      · rw [n3, i3_le (by omega) (by omega) (by omega) (by omega)] at c; omega
    | succ d ih =>
      intro i hi
      have h1 := hW.b i; have h2 := hW.b (i + 1)
      have h3 := mul_b (a := cx F i) (b := cy F (i + 1)) (m := 9) (n := 9) (by omega) (by omega)
      have h4 := mul_b (a := cx F (i + 1)) (b := cy F i) (m := 9) (n := 9) (by omega) (by omega)
      refine lp_174_4 _ _ SI SJ (sp_corners hR ⟨fun c => ?_, fun c => ?_⟩)
      · rw [n3, i3_le (by omega) (by omega) (by omega) (by omega)] at c; omega
      · rw [i3_add]
        refine sp_cornerX hR hW i (by omega) rfl (sp_cornerY hR hW (i + 1) (by omega) (i3_c (by omega)) (sp_cornerX hR hW (i + 1) (by omega) (i3_c (by omega)) (sp_cornerY hR hW i (by omega) rfl ?_)))
        rw [i3_mul, i3_mul, i3_64 (by omega) (by omega), i3_64 (by omega) (by omega), i6_add, i6_sub]
        exact ih (i + 1) (by omega)
  exact key (nC F) 0 (by omega)
end Geo2
