/-! 34: the reference's plate, third part -/
def nxt (F : Nat → Int) (f e : Nat) : Prop := (f + 1) % nC F = e
def plt (F : Nat → Int) : Prop := 3 ≤ nC F ∧ (∀ i, i < nC F → sd F i (i + 1) (cx F (i + 2)) (cy F (i + 2)) ≠ 0) ∧ (∀ e f, e < nC F → e + 2 ≤ f → f < nC F → (f + 1) % nC F ≠ e → ¬ mtg F e f) ∧ 0 < ar F (nC F)
theorem i3_0le {a : Int} (h1 : -2147483648 ≤ a) (h2 : a < 2147483648) : 0 ≤ i3 a ↔ 0 ≤ a := by rw [i3_z, i3_le (by omega) (by omega) h1 h2]
theorem i3_le0 {a : Int} (h1 : -2147483648 ≤ a) (h2 : a < 2147483648) : i3 a ≤ 0 ↔ a ≤ 0 := by rw [i3_z, i3_le h1 h2 (by omega) (by omega)]
theorem i3_0lt {a : Int} (h1 : -2147483648 ≤ a) (h2 : a < 2147483648) : 0 < i3 a ↔ 0 < a := by rw [i3_z, i3_lt (by omega) (by omega) h1 h2]
theorem i3_lt0 {a : Int} (h1 : -2147483648 ≤ a) (h2 : a < 2147483648) : i3 a < 0 ↔ a < 0 := by rw [i3_z, i3_lt h1 h2 (by omega) (by omega)]
theorem i3_eq0 {a : Int} (h1 : -2147483648 ≤ a) (h2 : a < 2147483648) : i3 a = 0 ↔ a = 0 := by rw [i3_z, i3_eq h1 h2 (by omega) (by omega)]
theorem i6_eq0 {a : Int} (h1 : -9223372036854775808 ≤ a) (h2 : a < 9223372036854775808) : i6 a = 0 ↔ a = 0 := by rw [i6_z, i6_eq h1 h2 (by omega) (by omega)]
/-- places up to an edge -/
def pl (F : Nat → Int) : Nat → Int
  | 0 => 0
  | e + 1 => pl F e + stp F e - 1
section Geo3
variable {E : gj_E} {SI : gj_I} {SJ : gj_J} {F : Nat → Int}
theorem sp_areMeeting {Q : Int32 → gj_I → gj_J → Prop} {a b : Int32} (hR : RF F SI) (hW : Wc F) (e f : Nat) (he : e < 100) (hf : f < 100) (ha : a = i3 e) (hb : b = i3 f) (h : Q (ibc (mtg F e f)) SI SJ) : DoI E 173 [(.ref 81), (.int a), (.int b)] SI SJ Q := by
  subst ha; subst hb
  have h1 := hW.b e; have h2 := hW.b (e + 1); have h3 := hW.b f; have h4 := hW.b (f + 1)
  have k1 := sd_b hW e (e + 1) (u := cx F f) (v := cy F f) (by omega) (by omega)
  have k2 := sd_b hW e (e + 1) (u := cx F (f + 1)) (v := cy F (f + 1)) (by omega) (by omega)
  have k3 := sd_b hW f (f + 1) (u := cx F e) (v := cy F e) (by omega) (by omega)
  have k4 := sd_b hW f (f + 1) (u := cx F (e + 1)) (v := cy F (e + 1)) (by omega) (by omega)
  refine st_173 _ _ SI SJ ?_
  rw [i3_add, i3_add]
  refine sp_cornerX hR hW f (by omega) rfl (sp_cornerY hR hW f (by omega) rfl (sp_sideOf hR hW e (e + 1) _ _ (by omega) (by omega) (by omega) (by omega) rfl (i3_c (by omega)) rfl rfl (sp_signOf (by omega) (by omega) ?_)))
  refine sp_cornerX hR hW (f + 1) (by omega) (i3_c (by omega)) (sp_cornerY hR hW (f + 1) (by omega) (i3_c (by omega)) (sp_sideOf hR hW e (e + 1) _ _ (by omega) (by omega) (by omega) (by omega) rfl (i3_c (by omega)) rfl rfl (sp_signOf (by omega) (by omega) ?_)))
  refine sp_cornerX hR hW e (by omega) rfl (sp_cornerY hR hW e (by omega) rfl (sp_sideOf hR hW f (f + 1) _ _ (by omega) (by omega) (by omega) (by omega) rfl (i3_c (by omega)) rfl rfl (sp_signOf (by omega) (by omega) ?_)))
  refine sp_cornerX hR hW (e + 1) (by omega) (i3_c (by omega)) (sp_cornerY hR hW (e + 1) (by omega) (i3_c (by omega)) (sp_sideOf hR hW f (f + 1) _ _ (by omega) (by omega) (by omega) (by omega) rfl (i3_c (by omega)) rfl rfl (sp_signOf (by omega) (by omega) ?_)))
  have s1 := sign_b (sd F e (e + 1) (cx F f) (cy F f))
  have s2 := sign_b (sd F e (e + 1) (cx F (f + 1)) (cy F (f + 1)))
  have s3 := sign_b (sd F f (f + 1) (cx F e) (cy F e))
  have s4 := sign_b (sd F f (f + 1) (cx F (e + 1)) (cy F (e + 1)))
  have t1 := mul_b (a := (sd F e (e + 1) (cx F f) (cy F f)).sign) (b := (sd F e (e + 1) (cx F (f + 1)) (cy F (f + 1))).sign) (m := 1) (n := 1) (by omega) (by omega)
  have t2 := mul_b (a := (sd F f (f + 1) (cx F e) (cy F e)).sign) (b := (sd F f (f + 1) (cx F (e + 1)) (cy F (e + 1))).sign) (m := 1) (n := 1) (by omega) (by omega)
  rw [i3_mul, i3_mul, i3_0le (by omega) (by omega), i3_0le (by omega) (by omega)]
  refine ⟨fun c => ?_, fun c => ⟨fun c2 => ?_, fun c2 => ?_⟩⟩
  · refine sp_cornerX hR hW f (by omega) rfl (sp_cornerY hR hW f (by omega) rfl (sp_isBetween hR hW e _ _ (by omega) (by omega) (by omega) rfl rfl rfl ⟨fun q => ?_, fun q => ?_⟩))
    · rw [ibc_0, Classical.not_not] at q; rw [ibc_t (p := mtg F e f) (Or.inr (Or.inl q))] at h; exact h
    rw [ibc_0] at q
    refine sp_cornerX hR hW (f + 1) (by omega) (i3_c (by omega)) (sp_cornerY hR hW (f + 1) (by omega) (i3_c (by omega)) (sp_isBetween hR hW e _ _ (by omega) (by omega) (by omega) rfl rfl rfl ⟨fun q2 => ?_, fun q2 => ?_⟩))
    · rw [ibc_0, Classical.not_not] at q2; rw [ibc_t (p := mtg F e f) (Or.inr (Or.inr (Or.inl q2)))] at h; exact h
    rw [ibc_0] at q2
    refine sp_cornerX hR hW e (by omega) rfl (sp_cornerY hR hW e (by omega) rfl (sp_isBetween hR hW f _ _ (by omega) (by omega) (by omega) rfl rfl rfl ⟨fun q3 => ?_, fun q3 => ?_⟩))
    · rw [ibc_0, Classical.not_not] at q3; rw [ibc_t (p := mtg F e f) (Or.inr (Or.inr (Or.inr (Or.inl q3))))] at h; exact h
    rw [ibc_0] at q3
    refine sp_cornerX hR hW (e + 1) (by omega) (i3_c (by omega)) (sp_cornerY hR hW (e + 1) (by omega) (i3_c (by omega)) (sp_isBetween hR hW f _ _ (by omega) (by omega) (by omega) rfl rfl rfl ⟨fun q4 => ?_, fun q4 => ?_⟩))
    · rw [ibc_0] at q4
      rw [ibc_f (p := mtg F e f) (fun z => by rcases z with z | z | z | z | z; exact absurd z.1 (Int.not_lt.mpr c); exact q z; exact q2 z; exact q3 z; exact q4 z)] at h; exact h
    · rw [ibc_0, Classical.not_not] at q4; rw [ibc_t (p := mtg F e f) (Or.inr (Or.inr (Or.inr (Or.inr q4))))] at h; exact h
  · refine sp_cornerX hR hW f (by omega) rfl (sp_cornerY hR hW f (by omega) rfl (sp_isBetween hR hW e _ _ (by omega) (by omega) (by omega) rfl rfl rfl ⟨fun q => ?_, fun q => ?_⟩))
    · rw [ibc_0, Classical.not_not] at q; rw [ibc_t (p := mtg F e f) (Or.inr (Or.inl q))] at h; exact h
    rw [ibc_0] at q
    refine sp_cornerX hR hW (f + 1) (by omega) (i3_c (by omega)) (sp_cornerY hR hW (f + 1) (by omega) (i3_c (by omega)) (sp_isBetween hR hW e _ _ (by omega) (by omega) (by omega) rfl rfl rfl ⟨fun q2 => ?_, fun q2 => ?_⟩))
    · rw [ibc_0, Classical.not_not] at q2; rw [ibc_t (p := mtg F e f) (Or.inr (Or.inr (Or.inl q2)))] at h; exact h
    rw [ibc_0] at q2
    refine sp_cornerX hR hW e (by omega) rfl (sp_cornerY hR hW e (by omega) rfl (sp_isBetween hR hW f _ _ (by omega) (by omega) (by omega) rfl rfl rfl ⟨fun q3 => ?_, fun q3 => ?_⟩))
    · rw [ibc_0, Classical.not_not] at q3; rw [ibc_t (p := mtg F e f) (Or.inr (Or.inr (Or.inr (Or.inl q3))))] at h; exact h
    rw [ibc_0] at q3
    refine sp_cornerX hR hW (e + 1) (by omega) (i3_c (by omega)) (sp_cornerY hR hW (e + 1) (by omega) (i3_c (by omega)) (sp_isBetween hR hW f _ _ (by omega) (by omega) (by omega) rfl rfl rfl ⟨fun q4 => ?_, fun q4 => ?_⟩))
    · rw [ibc_0] at q4
      rw [ibc_f (p := mtg F e f) (fun z => by rcases z with z | z | z | z | z; exact absurd z.2 (Int.not_lt.mpr c2); exact q z; exact q2 z; exact q3 z; exact q4 z)] at h; exact h
    · rw [ibc_0, Classical.not_not] at q4; rw [ibc_t (p := mtg F e f) (Or.inr (Or.inr (Or.inr (Or.inr q4))))] at h; exact h
  · rw [ibc_t (p := mtg F e f) (Or.inl ⟨Int.not_le.mp c, Int.not_le.mp c2⟩)] at h; exact h
theorem sp_isPlate {Q : Int32 → gj_I → gj_J → Prop} (hR : RF F SI) (hW : Wc F) (h : Q (ibc (plt F)) SI SJ) : DoI E 175 [(.ref 81)] SI SJ Q := by
  obtain ⟨n1, n2, n3⟩ := hW.n
  refine st_175 SI SJ (sp_corners hR ⟨fun c => ?_, fun c => ?_⟩)
  · rw [n3] at c ⊢
    rw [i3_le (by omega) (by omega) (by omega) (by omega)] at c
    -- the end
    have hend : (∀ i, i < nC F → sd F i (i + 1) (cx F (i + 2)) (cy F (i + 2)) ≠ 0) → (∀ e f, e < nC F → e + 2 ≤ f → f < nC F → (f + 1) % nC F ≠ e → ¬ mtg F e f) → GoI E mt_175 56 [some (.ref 81), some (.int (i3 (nC F))), some (.int (i3 (nC F))), none] SI SJ Q := by
      intro g1 g2
      refine lp_175_56 _ _ SI SJ ⟨fun _ => ?_, fun c => ?_⟩
      · refine sp_areaTwice hR hW ?_
        have hb := ar_b hW (nC F)
        rw [i6_le (by omega) (by omega) (by omega) (by omega)]
        refine ⟨fun c => ?_, fun c => ?_⟩
        · rw [ibc_f (fun z => absurd z.2.2.2 (Int.not_lt.mpr c))] at h; exact h
        · rw [ibc_t ⟨by omega, g1, g2, Int.not_le.mp c⟩] at h; exact h
      · exact absurd (by rw [i3_le (by omega) (by omega) (by omega) (by omega)]; omega) c
    -- couples of edges
    have h2 : ∀ (d e : Nat), e + d = nC F → (∀ i, i < nC F → sd F i (i + 1) (cx F (i + 2)) (cy F (i + 2)) ≠ 0) → (∀ e' f, e' < e → e' + 2 ≤ f → f < nC F → (f + 1) % nC F ≠ e' → ¬ mtg F e' f) → GoI E mt_175 56 [some (.ref 81), some (.int (i3 (nC F))), some (.int (i3 e)), none] SI SJ Q := by
      intro d
      induction d with
      | zero =>
        intro e he g1 g2
        rw [show e = nC F by omega] at g2 ⊢
        exact hend g1 g2
      | succ d ih =>
        intro e he g1 g2
        refine lp_175_56 _ _ SI SJ ⟨fun c => ?_, fun c => ?_⟩
        · rw [i3_le (by omega) (by omega) (by omega) (by omega)] at c; omega
        · rw [i3_add]
          have h3 : ∀ (d2 f : Nat), (nC F ≤ f ∧ d2 = 0 ∨ f + d2 = nC F) → e + 2 ≤ f → f ≤ nC F + 2 → (∀ f', e + 2 ≤ f' → f' < f → f' < nC F → (f' + 1) % nC F ≠ e → ¬ mtg F e f') → GoI E mt_175 65 [some (.ref 81), some (.int (i3 (nC F))), some (.int (i3 e)), some (.int (i3 f))] SI SJ Q := by
            intro d2
            induction d2 with
            | zero =>
              intro f hf hef hf2 g3
              refine lp_175_65 _ _ _ SI SJ ⟨fun _ => ?_, fun c => ?_⟩
              · rw [i3_add, show (e : Int) + 1 = ((e + 1 : Nat) : Int) by omega]
                refine ih (e + 1) (by omega) g1 (fun e' f' a1 a2 a3 a4 => ?_)
                rcases Nat.lt_or_ge e' e with q | q
                · exact g2 e' f' q a2 a3 a4
                · have : e' = e := by omega
                  subst this
                  exact g3 f' a2 (by omega) a3 a4
              · rw [i3_le (by omega) (by omega) (by omega) (by omega)] at c; omega
            | succ d2 ih2 =>
              intro f hf hef hf2 g3
              have hff : f < nC F := by omega
              refine lp_175_65 _ _ _ SI SJ ⟨fun c => ?_, fun c => ⟨?_, ?_⟩⟩
              · rw [i3_le (by omega) (by omega) (by omega) (by omega)] at c; omega
              · rw [i3_eq0 (by omega) (by omega)]; omega
              · rw [i3_add, show (f : Int) + 1 = ((f + 1 : Nat) : Int) by omega, i3_remN (by omega) n1 (by omega)]
                have hm := Nat.mod_lt (f + 1) n1
                rw [i3_eq (by omega) (by omega) (by omega) (by omega)]
                refine ⟨fun q => ?_, fun q => ?_⟩
                · refine ih2 (f + 1) (by omega) (by omega) (by omega) (fun f' a1 a2 a3 a4 => ?_)
                  rcases Nat.lt_or_ge f' f with z | z
                  · exact g3 f' a1 z a3 a4
                  · have : f' = f := by omega
                    subst this
                    exact absurd (by omega) a4
                · refine sp_areMeeting hR hW e f (by omega) (by omega) rfl rfl ⟨fun z => ?_, fun z => ?_⟩
                  · rw [ibc_0] at z
                    refine ih2 (f + 1) (by omega) (by omega) (by omega) (fun f' a1 a2 a3 a4 => ?_)
                    rcases Nat.lt_or_ge f' f with y | y
                    · exact g3 f' a1 y a3 a4
                    · have : f' = f := by omega
                      subst this
                      exact z
                  · rw [ibc_0, Classical.not_not] at z
                    rw [ibc_f (fun y => y.2.2.1 e f (by omega) hef hff (by omega) z)] at h; exact h
          rw [show (e : Int) + 2 = ((e + 2 : Nat) : Int) by omega]
          rcases Nat.lt_or_ge (e + 2) (nC F) with q | q
          · exact h3 (nC F - (e + 2)) (e + 2) (by omega) (by omega) (by omega) (fun f' a1 a2 => by omega)
          · exact h3 0 (e + 2) (by omega) (by omega) (by omega) (fun f' a1 a2 => by omega)
    have h1 : ∀ (d i : Nat), i + d = nC F → (∀ j, j < i → sd F j (j + 1) (cx F (j + 2)) (cy F (j + 2)) ≠ 0) → GoI E mt_175 14 [some (.ref 81), some (.int (i3 (nC F))), some (.int (i3 i)), none] SI SJ Q := by
      intro d
      induction d with
      | zero =>
        intro i hi g1
        refine lp_175_14 _ _ SI SJ ⟨fun _ => ?_, fun c => ?_⟩
        · exact h2 (nC F) 0 (by omega) (fun j hj => g1 j (by omega)) (fun e' f a1 => by omega)
        · rw [i3_le (by omega) (by omega) (by omega) (by omega)] at c; omega
      | succ d ih =>
        intro i hi g1
        refine lp_175_14 _ _ SI SJ ⟨fun c => ?_, fun c => ?_⟩
        · rw [i3_le (by omega) (by omega) (by omega) (by omega)] at c; omega
        · have b1 := hW.b (i + 2)
          have k1 := sd_b hW i (i + 1) (u := cx F (i + 2)) (v := cy F (i + 2)) (by omega) (by omega)
          rw [i3_add, i3_add]
          refine sp_cornerX hR hW (i + 2) (by omega) (i3_c (by omega)) (sp_cornerY hR hW (i + 2) (by omega) (i3_c (by omega)) (sp_sideOf hR hW i (i + 1) _ _ (by omega) (by omega) (by omega) (by omega) rfl (i3_c (by omega)) rfl rfl ?_))
          rw [i6_eq (by omega) (by omega) (by omega) (by omega)]
          refine ⟨fun q => ?_, fun q => ?_⟩
          · rw [show (i : Int) + 1 = ((i + 1 : Nat) : Int) by omega]
            refine ih (i + 1) (by omega) (fun j hj => ?_)
            rcases Nat.lt_or_ge j i with y | y
            · exact g1 j y
            · have : j = i := by omega
              subst this
              exact q
          · rw [ibc_f (fun y => y.2.1 i (by omega) q)] at h; exact h
    exact h1 (nC F) 0 (by omega) (fun j hj => by omega)
  · rw [n3, i3_le (by omega) (by omega) (by omega) (by omega)] at c
    rw [ibc_f (fun z => by have := z.1; omega)] at h; exact h
end Geo3
