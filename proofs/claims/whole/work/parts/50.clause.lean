/-! 50: the reference reads a clause -/
abbrev lt (T : Nat → Int) (n p : Nat) : Prop := 97 ≤ hr T n p ∧ hr T n p ≤ 122
/-- so many letters -/
def wl (T : Nat → Int) (n : Nat) : Nat → Nat → Nat
  | 0, _ => 0
  | f + 1, p => if lt T n p then 1 + wl T n f (p + 1) else 0
def wv (T : Nat → Int) (n p : Nat) : Nat → Int
  | 0 => 0
  | i + 1 => if i < 8 then 32 * wv T n p i + hr T n (p + i) - 96 else -1
/-- the word at p: 0 put, 1 take, 2 tread, 3 centre -/
def kd (T : Nat → Int) (n p : Nat) : Int :=
  if wl T n 120 p = 3 ∧ hr T n p = 112 ∧ hr T n (p + 1) = 117 ∧ hr T n (p + 2) = 116 then 0
  else if wl T n 120 p = 4 ∧ hr T n p = 116 ∧ hr T n (p + 1) = 97 ∧ hr T n (p + 2) = 107 ∧ hr T n (p + 3) = 101 then 1
  else if wl T n 120 p = 5 ∧ hr T n p = 116 ∧ hr T n (p + 1) = 114 ∧ hr T n (p + 2) = 101 ∧ hr T n (p + 3) = 97 ∧ hr T n (p + 4) = 100 then 2
  else if wl T n 120 p = 6 ∧ hr T n p = 99 ∧ hr T n (p + 1) = 101 ∧ hr T n (p + 2) = 110 ∧ hr T n (p + 3) = 116 ∧ hr T n (p + 4) = 114 ∧ hr T n (p + 5) = 101 then 3
  else -1
def cod (k : Int) : Int := if k = 0 then 17076 else if k = 1 then 656741 else if k = 2 then 21566500 else 106385989
theorem wl_lt (T : Nat → Int) (n : Nat) : ∀ (f p i : Nat), i < wl T n f p → lt T n (p + i) := by
  intro f
  induction f with
  | zero => intro p i h; exact absurd h (Nat.not_lt_zero i)
  | succ f ih =>
    intro p i h
    unfold wl at h
    split at h
    · next c =>
      cases i with
      | zero => exact c
      | succ i =>
        have := ih (p + 1) i (by omega)
        rw [show p + 1 + i = p + (i + 1) by omega] at this
        exact this
    · omega
theorem wl_end (T : Nat → Int) (n : Nat) : ∀ (f p : Nat), n ≤ p + f → ¬ lt T n (p + wl T n f p) := by
  intro f
  induction f with
  | zero =>
    intro p h c
    have := hr_lt (show 0 ≤ hr T n (p + wl T n 0 p) by omega)
    omega
  | succ f ih =>
    intro p h
    unfold wl
    split
    · next c =>
      have := ih (p + 1) (by omega)
      rw [show p + (1 + wl T n f (p + 1)) = p + 1 + wl T n f (p + 1) by omega]
      exact this
    · next c => exact c
theorem wv_k {T : Nat → Int} {n p : Nat} : ∀ L, L = wl T n 120 p → ((kd T n p = -1 ∧ wv T n p L ≠ 17076 ∧ wv T n p L ≠ 656741 ∧ wv T n p L ≠ 21566500 ∧ wv T n p L ≠ 106385989) ∨ (0 ≤ kd T n p ∧ kd T n p ≤ 3 ∧ wv T n p L = cod (kd T n p))) := by
  intro L hL
  have hl : ∀ i, i < L → lt T n (p + i) := fun i hi => wl_lt T n 120 p i (by omega)
  by_cases h8 : 8 < L
  · have e : wv T n p L = -1 := by
      obtain ⟨m, rfl⟩ : ∃ m, L = m + 1 := ⟨L - 1, by omega⟩
      unfold wv; rw [if_neg (by omega)]
    left
    rw [e]
    unfold kd
    rw [← hL]
    refine ⟨?_, by decide, by decide, by decide, by decide⟩
    rw [if_neg (by omega), if_neg (by omega), if_neg (by omega), if_neg (by omega)]
  · have h0 := hl 0; have h1 := hl 1; have h2 := hl 2; have h3 := hl 3; have h4 := hl 4; have h5 := hl 5; have h6 := hl 6; have h7 := hl 7
    rw [Nat.add_zero] at h0
    unfold kd
    rw [← hL]
    have w0 : wv T n p 0 = 0 := rfl
    have w1 : wv T n p 1 = 32 * wv T n p 0 + hr T n p - 96 := rfl
    have w2 : wv T n p 2 = 32 * wv T n p 1 + hr T n (p + 1) - 96 := rfl
    have w3 : wv T n p 3 = 32 * wv T n p 2 + hr T n (p + 2) - 96 := rfl
    have w4 : wv T n p 4 = 32 * wv T n p 3 + hr T n (p + 3) - 96 := rfl
    have w5 : wv T n p 5 = 32 * wv T n p 4 + hr T n (p + 4) - 96 := rfl
    have w6 : wv T n p 6 = 32 * wv T n p 5 + hr T n (p + 5) - 96 := rfl
    have w7 : wv T n p 7 = 32 * wv T n p 6 + hr T n (p + 6) - 96 := rfl
    have w8 : wv T n p 8 = 32 * wv T n p 7 + hr T n (p + 7) - 96 := rfl
    clear hl
    rcases (show L = 0 ∨ L = 1 ∨ L = 2 ∨ L = 3 ∨ L = 4 ∨ L = 5 ∨ L = 6 ∨ L = 7 ∨ L = 8 by omega) with q | q | q | q | q | q | q | q | q
    · subst q
      left
      rw [if_neg (by omega), if_neg (by omega), if_neg (by omega), if_neg (by omega)]
      refine ⟨rfl, ?_, ?_, ?_, ?_⟩ <;> (rw [w0]; decide)
    · subst q
      have h0 := h0 (by decide)
      have b1 : 1 ≤ wv T n p 1 ∧ wv T n p 1 ≤ 26 := by clear h1 h2 h3 h4 h5 h6 h7 w2 w3 w4 w5 w6 w7 w8; omega
      left
      rw [if_neg (by omega), if_neg (by omega), if_neg (by omega), if_neg (by omega)]
      refine ⟨rfl, ?_, ?_, ?_, ?_⟩ <;> (have := b1; clear w0 w1 w2 w3 w4 w5 w6 w7 w8; omega)
    · subst q
      have h0 := h0 (by decide)
      have h1 := h1 (by decide)
      have b1 : 1 ≤ wv T n p 1 ∧ wv T n p 1 ≤ 26 := by clear h1 h2 h3 h4 h5 h6 h7 w2 w3 w4 w5 w6 w7 w8; omega
      have b2 : 33 ≤ wv T n p 2 ∧ wv T n p 2 ≤ 858 := by clear h0 h2 h3 h4 h5 h6 h7 w0 w1 w3 w4 w5 w6 w7 w8; omega
      left
      rw [if_neg (by omega), if_neg (by omega), if_neg (by omega), if_neg (by omega)]
      refine ⟨rfl, ?_, ?_, ?_, ?_⟩ <;> (have := b2; clear w0 w1 w2 w3 w4 w5 w6 w7 w8; omega)
    · subst q
      have h0 := h0 (by decide)
      have h1 := h1 (by decide)
      have h2 := h2 (by decide)
      have b1 : 1 ≤ wv T n p 1 ∧ wv T n p 1 ≤ 26 := by clear h1 h2 h3 h4 h5 h6 h7 w2 w3 w4 w5 w6 w7 w8; omega
      have b2 : 33 ≤ wv T n p 2 ∧ wv T n p 2 ≤ 858 := by clear h0 h2 h3 h4 h5 h6 h7 w0 w1 w3 w4 w5 w6 w7 w8; omega
      have b3 : 1057 ≤ wv T n p 3 ∧ wv T n p 3 ≤ 27482 := by clear h0 h1 h3 h4 h5 h6 h7 w0 w1 w2 w4 w5 w6 w7 w8; omega
      by_cases z : 3 = 3 ∧ hr T n p = 112 ∧ hr T n (p + 1) = 117 ∧ hr T n (p + 2) = 116
      · right
        rw [if_pos z]
        refine ⟨by decide, by decide, ?_⟩
        have : cod 0 = 17076 := by decide
        rw [this]; omega
      · left
        rw [if_neg z, if_neg (by omega), if_neg (by omega), if_neg (by omega)]
        refine ⟨rfl, ?_, ?_, ?_, ?_⟩
        · clear h3 h4 h5 h6 h7; omega
        · have := b3; omega
        · have := b3; omega
        · have := b3; omega
    · subst q
      have h0 := h0 (by decide)
      have h1 := h1 (by decide)
      have h2 := h2 (by decide)
      have h3 := h3 (by decide)
      have b1 : 1 ≤ wv T n p 1 ∧ wv T n p 1 ≤ 26 := by clear h1 h2 h3 h4 h5 h6 h7 w2 w3 w4 w5 w6 w7 w8; omega
      have b2 : 33 ≤ wv T n p 2 ∧ wv T n p 2 ≤ 858 := by clear h0 h2 h3 h4 h5 h6 h7 w0 w1 w3 w4 w5 w6 w7 w8; omega
      have b3 : 1057 ≤ wv T n p 3 ∧ wv T n p 3 ≤ 27482 := by clear h0 h1 h3 h4 h5 h6 h7 w0 w1 w2 w4 w5 w6 w7 w8; omega
      have b4 : 33825 ≤ wv T n p 4 ∧ wv T n p 4 ≤ 879450 := by clear h0 h1 h2 h4 h5 h6 h7 w0 w1 w2 w3 w5 w6 w7 w8; omega
      by_cases z : 4 = 4 ∧ hr T n p = 116 ∧ hr T n (p + 1) = 97 ∧ hr T n (p + 2) = 107 ∧ hr T n (p + 3) = 101
      · right
        rw [if_neg (by omega), if_pos z]
        refine ⟨by decide, by decide, ?_⟩
        have : cod 1 = 656741 := by decide
        rw [this]; omega
      · left
        rw [if_neg (by omega), if_neg z, if_neg (by omega), if_neg (by omega)]
        refine ⟨rfl, ?_, ?_, ?_, ?_⟩
        · have := b4; omega
        · clear h4 h5 h6 h7; omega
        · have := b4; omega
        · have := b4; omega
    · subst q
      have h0 := h0 (by decide)
      have h1 := h1 (by decide)
      have h2 := h2 (by decide)
      have h3 := h3 (by decide)
      have h4 := h4 (by decide)
      have b1 : 1 ≤ wv T n p 1 ∧ wv T n p 1 ≤ 26 := by clear h1 h2 h3 h4 h5 h6 h7 w2 w3 w4 w5 w6 w7 w8; omega
      have b2 : 33 ≤ wv T n p 2 ∧ wv T n p 2 ≤ 858 := by clear h0 h2 h3 h4 h5 h6 h7 w0 w1 w3 w4 w5 w6 w7 w8; omega
      have b3 : 1057 ≤ wv T n p 3 ∧ wv T n p 3 ≤ 27482 := by clear h0 h1 h3 h4 h5 h6 h7 w0 w1 w2 w4 w5 w6 w7 w8; omega
      have b4 : 33825 ≤ wv T n p 4 ∧ wv T n p 4 ≤ 879450 := by clear h0 h1 h2 h4 h5 h6 h7 w0 w1 w2 w3 w5 w6 w7 w8; omega
      have b5 : 1082401 ≤ wv T n p 5 ∧ wv T n p 5 ≤ 28142426 := by clear h0 h1 h2 h3 h5 h6 h7 w0 w1 w2 w3 w4 w6 w7 w8; omega
      by_cases z : 5 = 5 ∧ hr T n p = 116 ∧ hr T n (p + 1) = 114 ∧ hr T n (p + 2) = 101 ∧ hr T n (p + 3) = 97 ∧ hr T n (p + 4) = 100
      · right
        rw [if_neg (by omega), if_neg (by omega), if_pos z]
        refine ⟨by decide, by decide, ?_⟩
        have : cod 2 = 21566500 := by decide
        rw [this]; omega
      · left
        rw [if_neg (by omega), if_neg (by omega), if_neg z, if_neg (by omega)]
        refine ⟨rfl, ?_, ?_, ?_, ?_⟩
        · have := b5; omega
        · have := b5; omega
        · clear h5 h6 h7; omega
        · have := b5; omega
    · subst q
      have h0 := h0 (by decide)
      have h1 := h1 (by decide)
      have h2 := h2 (by decide)
      have h3 := h3 (by decide)
      have h4 := h4 (by decide)
      have h5 := h5 (by decide)
      have b1 : 1 ≤ wv T n p 1 ∧ wv T n p 1 ≤ 26 := by clear h1 h2 h3 h4 h5 h6 h7 w2 w3 w4 w5 w6 w7 w8; omega
      have b2 : 33 ≤ wv T n p 2 ∧ wv T n p 2 ≤ 858 := by clear h0 h2 h3 h4 h5 h6 h7 w0 w1 w3 w4 w5 w6 w7 w8; omega
      have b3 : 1057 ≤ wv T n p 3 ∧ wv T n p 3 ≤ 27482 := by clear h0 h1 h3 h4 h5 h6 h7 w0 w1 w2 w4 w5 w6 w7 w8; omega
      have b4 : 33825 ≤ wv T n p 4 ∧ wv T n p 4 ≤ 879450 := by clear h0 h1 h2 h4 h5 h6 h7 w0 w1 w2 w3 w5 w6 w7 w8; omega
      have b5 : 1082401 ≤ wv T n p 5 ∧ wv T n p 5 ≤ 28142426 := by clear h0 h1 h2 h3 h5 h6 h7 w0 w1 w2 w3 w4 w6 w7 w8; omega
      have b6 : 34636833 ≤ wv T n p 6 ∧ wv T n p 6 ≤ 900557658 := by clear h0 h1 h2 h3 h4 h6 h7 w0 w1 w2 w3 w4 w5 w7 w8; omega
      by_cases z : 6 = 6 ∧ hr T n p = 99 ∧ hr T n (p + 1) = 101 ∧ hr T n (p + 2) = 110 ∧ hr T n (p + 3) = 116 ∧ hr T n (p + 4) = 114 ∧ hr T n (p + 5) = 101
      · right
        rw [if_neg (by omega), if_neg (by omega), if_neg (by omega), if_pos z]
        refine ⟨by decide, by decide, ?_⟩
        have : cod 3 = 106385989 := by decide
        rw [this]; omega
      · left
        rw [if_neg (by omega), if_neg (by omega), if_neg (by omega), if_neg z]
        refine ⟨rfl, ?_, ?_, ?_, ?_⟩
        · have := b6; omega
        · have := b6; omega
        · have := b6; omega
        · clear h6 h7; omega
    · subst q
      have h0 := h0 (by decide)
      have h1 := h1 (by decide)
      have h2 := h2 (by decide)
      have h3 := h3 (by decide)
      have h4 := h4 (by decide)
      have h5 := h5 (by decide)
      have h6 := h6 (by decide)
      have b1 : 1 ≤ wv T n p 1 ∧ wv T n p 1 ≤ 26 := by clear h1 h2 h3 h4 h5 h6 h7 w2 w3 w4 w5 w6 w7 w8; omega
      have b2 : 33 ≤ wv T n p 2 ∧ wv T n p 2 ≤ 858 := by clear h0 h2 h3 h4 h5 h6 h7 w0 w1 w3 w4 w5 w6 w7 w8; omega
      have b3 : 1057 ≤ wv T n p 3 ∧ wv T n p 3 ≤ 27482 := by clear h0 h1 h3 h4 h5 h6 h7 w0 w1 w2 w4 w5 w6 w7 w8; omega
      have b4 : 33825 ≤ wv T n p 4 ∧ wv T n p 4 ≤ 879450 := by clear h0 h1 h2 h4 h5 h6 h7 w0 w1 w2 w3 w5 w6 w7 w8; omega
      have b5 : 1082401 ≤ wv T n p 5 ∧ wv T n p 5 ≤ 28142426 := by clear h0 h1 h2 h3 h5 h6 h7 w0 w1 w2 w3 w4 w6 w7 w8; omega
      have b6 : 34636833 ≤ wv T n p 6 ∧ wv T n p 6 ≤ 900557658 := by clear h0 h1 h2 h3 h4 h6 h7 w0 w1 w2 w3 w4 w5 w7 w8; omega
      have b7 : 1108378657 ≤ wv T n p 7 ∧ wv T n p 7 ≤ 28817845082 := by clear h0 h1 h2 h3 h4 h5 h7 w0 w1 w2 w3 w4 w5 w6 w8; omega
      left
      rw [if_neg (by omega), if_neg (by omega), if_neg (by omega), if_neg (by omega)]
      refine ⟨rfl, ?_, ?_, ?_, ?_⟩ <;> (have := b7; clear w0 w1 w2 w3 w4 w5 w6 w7 w8; omega)
    · subst q
      have h0 := h0 (by decide)
      have h1 := h1 (by decide)
      have h2 := h2 (by decide)
      have h3 := h3 (by decide)
      have h4 := h4 (by decide)
      have h5 := h5 (by decide)
      have h6 := h6 (by decide)
      have h7 := h7 (by decide)
      have b1 : 1 ≤ wv T n p 1 ∧ wv T n p 1 ≤ 26 := by clear h1 h2 h3 h4 h5 h6 h7 w2 w3 w4 w5 w6 w7 w8; omega
      have b2 : 33 ≤ wv T n p 2 ∧ wv T n p 2 ≤ 858 := by clear h0 h2 h3 h4 h5 h6 h7 w0 w1 w3 w4 w5 w6 w7 w8; omega
      have b3 : 1057 ≤ wv T n p 3 ∧ wv T n p 3 ≤ 27482 := by clear h0 h1 h3 h4 h5 h6 h7 w0 w1 w2 w4 w5 w6 w7 w8; omega
      have b4 : 33825 ≤ wv T n p 4 ∧ wv T n p 4 ≤ 879450 := by clear h0 h1 h2 h4 h5 h6 h7 w0 w1 w2 w3 w5 w6 w7 w8; omega
      have b5 : 1082401 ≤ wv T n p 5 ∧ wv T n p 5 ≤ 28142426 := by clear h0 h1 h2 h3 h5 h6 h7 w0 w1 w2 w3 w4 w6 w7 w8; omega
      have b6 : 34636833 ≤ wv T n p 6 ∧ wv T n p 6 ≤ 900557658 := by clear h0 h1 h2 h3 h4 h6 h7 w0 w1 w2 w3 w4 w5 w7 w8; omega
      have b7 : 1108378657 ≤ wv T n p 7 ∧ wv T n p 7 ≤ 28817845082 := by clear h0 h1 h2 h3 h4 h5 h7 w0 w1 w2 w3 w4 w5 w6 w8; omega
      have b8 : 35468117025 ≤ wv T n p 8 ∧ wv T n p 8 ≤ 922171042650 := by clear h0 h1 h2 h3 h4 h5 h6 w0 w1 w2 w3 w4 w5 w6 w7; omega
      left
      rw [if_neg (by omega), if_neg (by omega), if_neg (by omega), if_neg (by omega)]
      refine ⟨rfl, ?_, ?_, ?_, ?_⟩ <;> (have := b8; clear w0 w1 w2 w3 w4 w5 w6 w7 w8; omega)
/-- blank and number -/
def nb (T : Nat → Int) (n q : Nat) : Int ⊕ (Int × Nat) := if hr T n q = 32 then nm T n 2 (q + 1) else .inl (-1000 - q)
def clsP (T : Nat → Int) (n c p : Nat) : Int ⊕ (V3 × Nat) := if c = 12 then .inl (-4000 - p) else if kd T n p = -1 then .inl (-1000 - p) else match nb T n (p + wl T n 120 p) with
  | .inl e => .inl e
  | .inr (a, r) => if kd T n p = 1 then .inr ((1, a, 0), r) else (match nb T n r with
    | .inl e => .inl e
    | .inr (b, s) => .inr ((kd T n p, a, b), s))
def OD (t : Nat → V3) (c : Nat) (SI : gj_I) (SJ : gj_J) : Prop := SI 81 19 = i3 c ∧ ∀ j, j < c → SJ 91 j = i6 (cod (t j).1) ∧ SI 90 (2 * j) = i3 (t j).2.1 ∧ ((t j).1 ≠ 1 → SI 90 (2 * j + 1) = i3 (t j).2.2)
theorem OD.f {t : Nat → V3} {c : Nat} {A B : gj_I} {SJ : gj_J} (h : OD t c A SJ) (f : FI LRN A B) : OD t c B SJ := ⟨by rw [f 81 19 (by unfold LRN; omega)]; exact h.1, fun j hj => by rw [f 90 _ (by unfold LRN; omega), f 90 _ (by unfold LRN; omega)]; exact h.2 j hj⟩
section Clause
variable {E : gj_E} {SI : gj_I} {SJ : gj_J} {T : Nat → Int} {n p c : Nat} {t : Nat → V3}
def Ob (v : V3) : Prop := 0 ≤ v.1 ∧ v.1 ≤ 3 ∧ v.2.1.natAbs ≤ 999 ∧ v.2.2.natAbs ≤ 999
/-- blank, number, and on -/
theorem nb_core {Q : Int32 → gj_I → gj_J → Prop} {G : gj_I → gj_J → Prop} (hP : RP T n p SI) (hE : ∀ e SI', nb T n p = .inl e → FI LRN SI SI' → SI' 81 16 = i3 e → Q (i3 0) SI' SJ) (hK : ∀ v q SI', nb T n p = .inr (v, q) → FI LRN SI SI' → RP T n q SI' → v.natAbs ≤ 999 → SI' 81 17 = i3 v → G SI' SJ) : DoI E 210 [(.ref 81), (.int (i3 32))] SI SJ (fun r1 SI2 SJ2 => (r1 = 0 → Q (i3 0) SI2 SJ2) ∧ (¬ r1 = 0 → DoI E 211 [(.ref 81), (.int (i3 2)), (.int (i3 0))] SI2 SJ2 (fun r3 SI4 SJ4 => (¬ r3 = 0 → G SI4 SJ4) ∧ (r3 = 0 → Q (i3 0) SI4 SJ4)))) := by
  unfold nb at hE hK
  refine sp_takesSign hP 32 (by omega) rfl (fun w C fC hPC => ⟨fun q => absurd q (by decide), fun _ => ?_⟩) (fun w C fC h16 => ⟨fun _ => ?_, fun q => absurd rfl q⟩)
  · rw [if_pos w] at hE hK
    refine sp_readsNumber hPC 2 false (by omega) (fun q => by omega) rfl rfl (fun e A z f g => ⟨fun q => absurd rfl q, fun _ => ?_⟩) (fun x q A z f hP2 vb g => ⟨fun _ => ?_, fun q => absurd q (by decide)⟩)
    · exact hE e A z (fC.tr f) g
    · exact hK x q A z (fC.tr f) hP2 vb g
  · rw [if_neg w] at hE
    exact hE _ C rfl fC h16
end Clause
