/-! 79: proof: the reference -/
/-- members of a set below j -/
def cnt (s : Nat) : Nat → Nat
  | 0 => 0
  | j + 1 => cnt s j + (if s.testBit j = true then 1 else 0)
theorem cnt_h (s : Nat) : ∀ f, cnt s (f + 1) = s % 2 + cnt (s / 2) f := by
  intro f
  induction f with
  | zero =>
    show 0 + (if s.testBit 0 = true then 1 else 0) = s % 2 + 0
    rw [Nat.testBit_zero]
    by_cases q : s % 2 = 1
    · simp [q]
    · have : s % 2 = 0 := by omega
      simp [this]
  | succ f ih =>
    show cnt s (f + 1) + (if s.testBit (f + 1) = true then 1 else 0) = s % 2 + (cnt (s / 2) f + (if (s / 2).testBit f = true then 1 else 0))
    rw [ih, Nat.testBit_succ]; omega
theorem cnt_pcn : ∀ f s, pcn f s = cnt s f := by
  intro f
  induction f with
  | zero => intro s; rfl
  | succ f ih => intro s; rw [cnt_h]; unfold pcn; rw [ih]
theorem cnt_m (s : Nat) : ∀ d j, cnt s j ≤ cnt s (j + d) := by
  intro d
  induction d with
  | zero => intro j; exact Nat.le_refl _
  | succ d ih => intro j; have := ih j; show cnt s j ≤ cnt s (j + d) + _; omega
theorem cnt_ex (s k : Nat) : ∀ f, k < cnt s f → ∃ j, j < f ∧ s.testBit j = true ∧ cnt s j = k := by
  intro f
  induction f with
  | zero => intro h; exact absurd h (Nat.not_lt_zero k)
  | succ f ih =>
    intro h
    by_cases q : k < cnt s f
    · obtain ⟨j, j1, j2⟩ := ih q; exact ⟨j, by omega, j2⟩
    · have h' : k < cnt s f + (if s.testBit f = true then 1 else 0) := h
      by_cases b : s.testBit f = true
      · rw [if_pos b] at h'; exact ⟨f, by omega, b, by omega⟩
      · rw [if_neg b] at h'; omega
theorem cnt_un {s i j : Nat} (hi : s.testBit i = true) (hj : s.testBit j = true) (h : cnt s i = cnt s j) : i = j := by
  have key : ∀ {i j : Nat}, s.testBit i = true → i < j → cnt s i < cnt s j := by
    intro i j hi hij
    have m := cnt_m s (j - (i + 1)) (i + 1)
    rw [show i + 1 + (j - (i + 1)) = j by omega] at m
    have e : cnt s (i + 1) = cnt s i + 1 := by show cnt s i + _ = _; rw [if_pos hi]
    omega
  rcases Nat.lt_trichotomy i j with q | q | q
  · have := key hi q; omega
  · exact q
  · have := key hj q; omega
theorem cnt_lt {s i j : Nat} (hi : s.testBit i = true) (hj : s.testBit j = true) : cnt s i < cnt s j ↔ i < j := by
  constructor
  · intro h
    rcases Nat.lt_or_ge i j with q | q
    · exact q
    · have m := cnt_m s (i - j) j
      rw [show j + (i - j) = i by omega] at m; omega
  · intro h
    have m := cnt_m s (j - (i + 1)) (i + 1)
    rw [show i + 1 + (j - (i + 1)) = j by omega] at m
    have e : cnt s (i + 1) = cnt s i + 1 := by show cnt s i + _ = _; rw [if_pos hi]
    omega
/-- the k-th member -/
noncomputable def mb (s k : Nat) : Nat := Classical.epsilon (fun j => j < 31 ∧ s.testBit j = true ∧ cnt s j = k)
theorem mb_s {s k : Nat} (h : k < pct s) : mb s k < 31 ∧ s.testBit (mb s k) = true ∧ cnt s (mb s k) = k := by
  refine Classical.epsilon_spec (p := fun j => j < 31 ∧ s.testBit j = true ∧ cnt s j = k) (cnt_ex s k 31 ?_)
  rw [← cnt_pcn]; exact h
/-- what three of four make: the others than the k-th -/
noncomputable def dt (W : Nat → V3) (s k : Nat) : Nat := (det3 (W (mb s (if k = 0 then 1 else 0))) (W (mb s (if k < 2 then 2 else 1))) (W (mb s (if k < 3 then 3 else 2)))).natAbs
noncomputable def dtG (W : Nat → V3) (s : Nat) (d : Nat) : Nat := forN (fun k g => Nat.gcd g (dt W s k)) 0 d 0
def otn (o p : Option Nat) : Option Nat := match o with
  | none => p
  | some x => some x
noncomputable def prM (W : Nat → V3) (n m : Nat) : Option Nat := fst (fun s => pct s = m ∧ firm W n s) some none 0 (fullS n + 1)
noncomputable def prA (W : Nat → V3) (n : Nat) : Option Nat := forN (fun m o => otn o (prM W n m)) 4 (n - 3) none
noncomputable def prS (W : Nat → V3) (n : Nat) : Nat := (prA W n).getD 0
noncomputable def proofA (F : Nat → Int) (w : Int) : Int := ic ((0 ≤ w ∧ w ≤ 5) ∧ firmF F) (if w = 0 then (pct (prS (WW F) (nW F)) : Int) else if w = 1 then (prS (WW F) (nW F) : Int) else if pct (prS (WW F) (nW F)) = 4 then ((dt (WW F) (prS (WW F) (nW F)) (w - 2).toNat / dtG (WW F) (prS (WW F) (nW F)) 4 : Nat) : Int) else -2) (-9000000000000000000)
theorem otn_stay {f : Nat → Option Nat} {x : Nat} : ∀ (d i : Nat), forN (fun j o => otn o (f j)) i d (some x) = some x := by
  intro d
  induction d with
  | zero => intro i; rfl
  | succ d ih => intro i; exact ih (i + 1)
theorem fst_none {α : Type} {p : Nat → Prop} {g : Nat → α} : ∀ (d i : Nat), fst p (fun j => some (g j)) none i d = none → ∀ j, i ≤ j → j < i + d → ¬ p j := by
  intro d
  induction d with
  | zero => intro i h j h1 h2; omega
  | succ d ih =>
    intro i h j h1 h2 hp
    by_cases q : p i
    · rw [fst_t q] at h; cases h
    · rw [fst_f q] at h
      by_cases e : j = i
      · rw [e] at hp; exact q hp
      · exact ih (i + 1) h j (by omega) (by omega) hp
theorem fst_some {α : Type} {p : Nat → Prop} {g : Nat → α} {y : α} : ∀ (d i : Nat), fst p (fun j => some (g j)) none i d = some y → ∃ j, i ≤ j ∧ j < i + d ∧ p j ∧ g j = y ∧ ∀ k, i ≤ k → k < j → ¬ p k := by
  intro d
  induction d with
  | zero => intro i h; cases h
  | succ d ih =>
    intro i h
    by_cases q : p i
    · rw [fst_t q] at h; cases h; exact ⟨i, by omega, by omega, q, rfl, fun k h1 h2 => by omega⟩
    · rw [fst_f q] at h
      obtain ⟨j, h1, h2, h3, h4, h5⟩ := ih (i + 1) h
      refine ⟨j, by omega, by omega, h3, h4, fun k k1 k2 => ?_⟩
      by_cases e : k = i
      · rw [e]; exact q
      · exact h5 k (by omega) k2
theorem prM_s {W : Nat → V3} {n m s : Nat} (h : prM W n m = some s) : s ≤ fullS n ∧ pct s = m ∧ firm W n s := by
  obtain ⟨j, h1, h2, h3, h4, -⟩ := fst_some (g := id) _ _ h
  have e : j = s := h4
  subst e
  exact ⟨by omega, h3.1, h3.2⟩
theorem otn_f {f : Nat → Option Nat} {s : Nat} : ∀ (d i : Nat), forN (fun j o => otn o (f j)) i d none = some s → ∃ m, i ≤ m ∧ m < i + d ∧ f m = some s ∧ ∀ k, i ≤ k → k < m → f k = none := by
  intro d
  induction d with
  | zero => intro i h; cases h
  | succ d ih =>
    intro i h
    have h' : forN (fun j o => otn o (f j)) (i + 1) d (f i) = some s := h
    cases hf : f i with
    | some x =>
      rw [hf, otn_stay] at h'
      cases h'
      exact ⟨i, by omega, by omega, hf, fun k h1 h2 => by omega⟩
    | none =>
      rw [hf] at h'
      obtain ⟨m, h1, h2, h3, h4⟩ := ih (i + 1) h'
      refine ⟨m, by omega, by omega, h3, fun k k1 k2 => ?_⟩
      by_cases e : k = i
      · rw [e]; exact hf
      · exact h4 k (by omega) k2
theorem otn_n {f : Nat → Option Nat} : ∀ (d i : Nat), forN (fun j o => otn o (f j)) i d none = none → ∀ k, i ≤ k → k < i + d → f k = none := by
  intro d
  induction d with
  | zero => intro i h k h1 h2; omega
  | succ d ih =>
    intro i h k h1 h2
    have h' : forN (fun j o => otn o (f j)) (i + 1) d (f i) = none := h
    cases hf : f i with
    | some x => rw [hf, otn_stay] at h'; cases h'
    | none =>
      rw [hf] at h'
      by_cases e : k = i
      · rw [e]; exact hf
      · exact ih (i + 1) h' k (by omega) (by omega)
section Proof
variable {E : gj_E} {SI : gj_I} {SJ : gj_J} {F : Nat → Int} {W : Nat → V3} {O : Nat → Int} {n : Nat}
theorem sp_memberOf {Q : Int32 → gj_I → gj_J → Prop} {a b : Int32} (s k j : Nat) (hs : s < 2147483648) (hj : j < 31) (h1 : s.testBit j = true) (h2 : cnt s j = k) (ha : a = i3 s) (hb : b = i3 k) (h : Q (i3 j) SI SJ) : DoI E 256 [(.ref 81), (.int a), (.int b)] SI SJ Q := by
  subst ha; subst hb
  have cj : ∀ j, cnt s j ≤ j := by
    intro j
    induction j with
    | zero => exact Nat.le_refl _
    | succ j ih => show cnt s j + (if s.testBit j = true then 1 else 0) ≤ j + 1; split <;> omega
  have cj0 := cj j
  refine st_256 _ _ SI SJ ?_
  refine up_lp (α := Unit) (P := fun i _ A B => A = SI ∧ B = SJ) (G := fun i _ A B => GoI E mt_256 5 [none, some (.int (i3 s)), none, some (.int (i3 ((k : Int) - (cnt s i : Nat)))), some (.int (i3 i))] A B Q) j ?_ ?_ 0 () SI SJ (by omega) ⟨rfl, rfl⟩
  · rintro _ A B ⟨rfl, rfl⟩
    refine lp_256_5 _ _ _ A B (sp_has hs (by omega) ⟨fun c => ?_, fun c => ⟨fun _ => h, fun c2 => ?_⟩⟩)
    · rw [ib_0] at c; exact absurd h1 c
    · rw [i3_le0 (by omega) (by omega)] at c2; omega
  · rintro i _ A B hi ⟨rfl, rfl⟩ ih
    have mm := cnt_m s (j - (i + 1)) (i + 1)
    rw [show i + 1 + (j - (i + 1)) = j by omega] at mm
    have ci := cj i
    have nx := ih () A B ⟨rfl, rfl⟩
    have e : cnt s (i + 1) = cnt s i + (if s.testBit i = true then 1 else 0) := rfl
    rw [e] at nx mm
    refine lp_256_5 _ _ _ A B (sp_has hs (by omega) ⟨fun c => sp_has hs (by omega) ⟨fun _ => ?_, fun c2 => absurd c c2⟩, fun c => ⟨fun c2 => ?_, fun _ => sp_has hs (by omega) ⟨fun c2 => absurd c2 c, fun _ => ?_⟩⟩⟩)
    · rw [ib_0] at c
      rw [if_neg c] at nx
      rw [i3_add]; exact nx
    · rw [ib_0, Decidable.not_not] at c
      rw [if_pos c] at mm
      rw [i3_le0 (by omega) (by omega)] at c2; omega
    · rw [ib_0, Decidable.not_not] at c
      rw [if_pos c] at nx
      rw [i3_add, i3_sub, show (k : Int) - ((cnt s i : Nat) : Int) - 1 = (k : Int) - ((cnt s i + 1 : Nat) : Int) by omega]; exact nx
theorem sp_proofSet {Q : Int32 → gj_I → gj_J → Prop} (hL : LW W O n SI SJ) (hn : n ≤ 14) (hB : Wb W n) (h : ∀ SJ', FJ LPx SJ SJ' → Q (i3 (prS W n)) SI SJ') : DoI E 255 [(.ref 81)] SI SJ Q := by
  have hfb := fullS_b hn
  refine st_255 SI SJ ?_
  have inner : ∀ (m : Nat) (B : gj_J), m ≤ 14 → FJ LPx SJ B → (∀ s, prM W n m = some s → ∀ B', FJ LPx SJ B' → Q (i3 (s : Nat)) SI B') → (prM W n m = none → ∀ B', FJ LPx SJ B' → GoI E mt_255 2 [some (.ref 81), some (.int (i3 ((m + 1 : Nat) : Int))), none] SI B' Q) → GoI E mt_255 12 [some (.ref 81), some (.int (i3 (m : Nat))), some (.int (i3 0))] SI B Q := by
    intro m B hm f hso hno
    refine up_lp (α := Unit) (P := fun i _ A B => A = SI ∧ FJ LPx SJ B ∧ prM W n m = fst (fun s => pct s = m ∧ firm W n s) some none i (fullS n + 1 - i)) (G := fun i _ A B => GoI E mt_255 12 [some (.ref 81), some (.int (i3 (m : Nat))), some (.int (i3 i))] A B Q) (fullS n + 1) ?_ ?_ 0 () SI B (by omega) ⟨rfl, f, rfl⟩
    · rintro _ A B ⟨rfl, f, e⟩
      rw [Nat.sub_self] at e
      refine lp_255_12 _ _ A B (sp_all hL.1 hn ⟨fun _ => ?_, fun c => ?_⟩)
      · rw [i3_add]; exact hno e B f
      · have ef : (2 ^ n - 1 : Nat) = fullS n := rfl
        rw [ef, i3_lt (by omega) (by omega) (by omega) (by omega)] at c; omega
    · rintro i _ A B hi ⟨rfl, f, e⟩ ih
      have e31 : pct i ≤ 31 := pcn_le 31 i
      rw [show fullS n + 1 - i = (fullS n + 1 - (i + 1)) + 1 by omega] at e
      have nx : ∀ B', FJ LPx SJ B' → ¬ (pct i = m ∧ firm W n i) → GoI E mt_255 12 [some (.ref 81), some (.int (i3 (m : Nat))), some (.int (i3 ((i : Int) + 1)))] A B' Q := by
        intro B' f' hne
        exact ih () A B' ⟨rfl, f', by rw [e, fst_f hne]⟩
      refine lp_255_12 _ _ A B (sp_all hL.1 hn ⟨fun c => ?_, fun c => sp_sizeOf i (by omega) rfl ?_⟩)
      · have ef : (2 ^ n - 1 : Nat) = fullS n := rfl
        rw [ef, i3_lt (by omega) (by omega) (by omega) (by omega)] at c; omega
      · rw [i3_eq (by omega) (by omega) (by omega) (by omega), i3_add]
        refine ⟨fun d => nx B f (fun z => d (by omega)), fun d => sp_isFirm (hL.f f) hn hB i (by omega) rfl (fun B2 f2 => ⟨fun g => ?_, fun g => ?_⟩)⟩
        · rw [ibc_0] at g; exact nx B2 (f.tr f2) (fun z => g z.2)
        · rw [ibc_0, Classical.not_not] at g
          exact hso i (by rw [e, fst_t ⟨by omega, g⟩]) B2 (f.tr f2)
  have outer : ∀ (d m : Nat) (B : gj_J), 4 ≤ m → m + d = n + 1 ∨ (d = 0 ∧ n < m) → m ≤ 15 → FJ LPx SJ B → prA W n = forN (fun m o => otn o (prM W n m)) m d none → GoI E mt_255 2 [some (.ref 81), some (.int (i3 (m : Nat))), none] SI B Q := by
    intro d
    induction d with
    | zero =>
      intro m B hm hd h15 f e
      refine lp_255_2 _ SI B ⟨fun _ => ?_, fun c => ?_⟩
      · have e' : prS W n = 0 := by unfold prS; rw [e]; rfl
        have hh := h B f
        rw [e'] at hh; exact hh
      · rw [hL.1, i3_lt (by omega) (by omega) (by omega) (by omega)] at c; omega
    | succ d ih =>
      intro m B hm hd h15 f e
      refine lp_255_2 _ SI B ⟨fun c => ?_, fun c => ?_⟩
      · rw [hL.1, i3_lt (by omega) (by omega) (by omega) (by omega)] at c; omega
      · refine inner m B (by omega) f (fun s hs B' f' => ?_) (fun hno B' f' => ih (m + 1) B' (by omega) (by omega) (by omega) f' ?_)
        · have e2 : prA W n = some s := by
            rw [e]
            show forN _ (m + 1) d (otn none (prM W n m)) = _
            rw [hs]; exact otn_stay _ _
          have e' : prS W n = s := by unfold prS; rw [e2]; rfl
          have hh := h B' f'
          rw [e'] at hh; exact hh
        · rw [e]
          show forN _ (m + 1) d (otn none (prM W n m)) = _
          rw [hno]; rfl
  by_cases q : 3 ≤ n
  · exact outer (n - 3) 4 SJ (by omega) (by omega) (by omega) FJ.rf rfl
  · exact outer (n - 3) 4 SJ (by omega) (by omega) (by omega) FJ.rf rfl
end Proof
