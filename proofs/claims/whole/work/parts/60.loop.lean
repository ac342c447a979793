/-! 60: loops in general -/
/-- f i, then f (i + 1), .. d times -/
def forN {α : Type} (f : Nat → α → α) : Nat → Nat → α → α
  | _, 0, a => a
  | i, d + 1, a => forN f (i + 1) d (f i a)
theorem forN_s {α : Type} {f : Nat → α → α} : ∀ (d i : Nat) (a : α), forN f i (d + 1) a = f (i + d) (forN f i d a) := by
  intro d
  induction d with
  | zero => intro i a; rfl
  | succ d ih =>
    intro i a
    show forN f (i + 1) (d + 1) (f i a) = _
    rw [ih (i + 1) (f i a), show i + 1 + d = i + (d + 1) by omega]
    rfl
theorem forN_c {α : Type} {f g : Nat → α → α} : ∀ (d i : Nat) (a : α), (∀ j b, i ≤ j → j < i + d → f j b = g j b) → forN f i d a = forN g i d a := by
  intro d
  induction d with
  | zero => intro i a h; rfl
  | succ d ih =>
    intro i a h
    show forN f (i + 1) d (f i a) = forN g (i + 1) d (g i a)
    rw [h i a (by omega) (by omega)]
    exact ih (i + 1) _ (fun j b h1 h2 => h j b (by omega) (by omega))
theorem forN_I {α : Type} {f : Nat → α → α} {P : Nat → α → Prop} : ∀ (d i : Nat) (a : α), (∀ j b, i ≤ j → j < i + d → P j b → P (j + 1) (f j b)) → P i a → P (i + d) (forN f i d a) := by
  intro d
  induction d with
  | zero => intro i a h h0; exact h0
  | succ d ih =>
    intro i a h h0
    have := ih (i + 1) (f i a) (fun j b h1 h2 => h j b (by omega) (by omega)) (h i a (by omega) (by omega) h0)
    rw [show i + (d + 1) = i + 1 + d by omega]
    exact this
theorem for_lp {α : Type} {f : Nat → α → α} {R : Nat → α → gj_I → gj_J → Prop} {G : Nat → α → gj_I → gj_J → Prop} {n : Nat} (hs : ∀ i a A B, i < n → R i a A B → (∀ A' B', R (i + 1) (f i a) A' B' → G (i + 1) (f i a) A' B') → G i a A B) : ∀ (d i : Nat) (a : α) (A : gj_I) (B : gj_J), i + d = n → R i a A B → (∀ A' B', R n (forN f i d a) A' B' → G n (forN f i d a) A' B') → G i a A B := by
  intro d
  induction d with
  | zero =>
    intro i a A B hi hR he
    have : i = n := by omega
    subst this
    exact he A B hR
  | succ d ih =>
    intro i a A B hi hR he
    exact hs i a A B (by omega) hR (fun A' B' h' => ih (i + 1) (f i a) A' B' (by omega) h' he)
theorem up_lp {α : Type} {P : Nat → α → gj_I → gj_J → Prop} {G : Nat → α → gj_I → gj_J → Prop} (n : Nat) (he : ∀ a A B, P n a A B → G n a A B) (hs : ∀ i a A B, i < n → P i a A B → (∀ a' A' B', P (i + 1) a' A' B' → G (i + 1) a' A' B') → G i a A B) : ∀ (i : Nat) (a : α) (A : gj_I) (B : gj_J), i ≤ n → P i a A B → G i a A B := by
  have key : ∀ (d i : Nat) (a : α) (A : gj_I) (B : gj_J), i + d = n → P i a A B → G i a A B := by
    intro d
    induction d with
    | zero =>
      intro i a A B hi h
      have : i = n := by omega
      subst this
      exact he a A B h
    | succ d ih => intro i a A B hi h; exact hs i a A B (by omega) h (fun a' A' B' h' => ih (i + 1) a' A' B' (by omega) h')
  intro i a A B hi h
  exact key (n - i) i a A B (by omega) h
noncomputable def ic {α : Type} (p : Prop) (a b : α) : α := @ite _ p (Classical.propDecidable p) a b
theorem ic_t {α : Type} {p : Prop} {a b : α} (h : p) : ic p a b = a := if_pos h
theorem ic_f {α : Type} {p : Prop} {a b : α} (h : ¬ p) : ic p a b = b := if_neg h
/-- the first from i on, of d, with p; else x -/
noncomputable def fst {α : Type} (p : Nat → Prop) (g : Nat → α) (x : α) : Nat → Nat → α
  | _, 0 => x
  | i, d + 1 => ic (p i) (g i) (fst p g x (i + 1) d)
theorem fst_t {α : Type} {p : Nat → Prop} {g : Nat → α} {x : α} {i d : Nat} (h : p i) : fst p g x i (d + 1) = g i := ic_t h
theorem fst_f {α : Type} {p : Nat → Prop} {g : Nat → α} {x : α} {i d : Nat} (h : ¬ p i) : fst p g x i (d + 1) = fst p g x (i + 1) d := ic_f h
theorem fst_n {α : Type} {p : Nat → Prop} {g : Nat → α} {x : α} : ∀ (d i : Nat), (∀ j, i ≤ j → j < i + d → ¬ p j) → fst p g x i d = x := by
  intro d
  induction d with
  | zero => intro i h; rfl
  | succ d ih => intro i h; rw [fst_f (h i (by omega) (by omega))]; exact ih (i + 1) (fun j h1 h2 => h j (by omega) (by omega))
theorem fst_i {α : Type} {p : Nat → Prop} {g : Nat → α} {x : α} : ∀ (d i k : Nat), i ≤ k → k < i + d → p k → (∀ j, i ≤ j → j < k → ¬ p j) → fst p g x i d = g k := by
  intro d
  induction d with
  | zero => intro i k h1 h2; omega
  | succ d ih =>
    intro i k h1 h2 h3 h4
    by_cases e : i = k
    · subst e; exact fst_t h3
    · rw [fst_f (h4 i (by omega) (by omega))]
      exact ih (i + 1) k (by omega) (by omega) h3 (fun j h5 h6 => h4 j (by omega) h6)
theorem fst_c {α : Type} {p q : Nat → Prop} {g : Nat → α} {x : α} : ∀ (d i : Nat), (∀ j, i ≤ j → j < i + d → (p j ↔ q j)) → fst p g x i d = fst q g x i d := by
  intro d
  induction d with
  | zero => intro i h; rfl
  | succ d ih =>
    intro i h
    have e := ih (i + 1) (fun j h1 h2 => h j (by omega) (by omega))
    have hi := h i (by omega) (by omega)
    by_cases hp : p i
    · rw [fst_t hp, fst_t (hi.mp hp)]
    · rw [fst_f hp, fst_f (fun z => hp (hi.mpr z)), e]
