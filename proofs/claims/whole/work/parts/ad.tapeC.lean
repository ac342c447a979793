/-! ad: the class's tape -/
def CT (T : Nat → Int) (SI : gj_I) : Prop := ∀ k, k < 240 → 0 ≤ T k ∧ T k ≤ 255 ∧ SI 2 k = i3 (T k)
/-- the text of n bytes is read up to p -/
def CP (T : Nat → Int) (n p : Nat) (SI : gj_I) : Prop := CT T SI ∧ n ≤ 240 ∧ p ≤ n ∧ SI 1 3 = i3 n ∧ SI 1 2 = i3 p
def LCp (o k : Nat) : Prop := o = 1 ∧ k = 2
theorem CT.f {T : Nat → Int} {L : Nat → Nat → Prop} {A B : gj_I} (h : CT T A) (f : FI L A B) (hl : ∀ k, ¬ L 2 k) : CT T B := fun k hk => by rw [f 2 k (hl k)]; exact h k hk
theorem CP.f {T : Nat → Int} {n p : Nat} {L : Nat → Nat → Prop} {A B : gj_I} (h : CP T n p A) (f : FI L A B) (hl : (∀ k, ¬ L 2 k) ∧ ¬ L 1 2 ∧ ¬ L 1 3) : CP T n p B := ⟨h.1.f f hl.1, h.2.1, h.2.2.1, by rw [f 1 3 hl.2.2]; exact h.2.2.2.1, by rw [f 1 2 hl.2.1]; exact h.2.2.2.2⟩
theorem CP.to {T : Nat → Int} {n p q : Nat} {A B : gj_I} (h : CP T n p A) (f : FI LCp A B) (hq : q ≤ n) (e : B 1 2 = i3 q) : CP T n q B := ⟨h.1.f f (fun k => by unfold LCp; omega), h.2.1, hq, by rw [f 1 3 (by unfold LCp; omega)]; exact h.2.2.2.1, e⟩
theorem hr_bC {T : Nat → Int} {SI : gj_I} (h : CT T SI) {n : Nat} (hn : n ≤ 240) (p : Nat) : -1 ≤ hr T n p ∧ hr T n p ≤ 255 := by
  unfold hr
  split
  · have := h p (by omega); omega
  · omega
theorem nmL_b {T : Nat → Int} {n : Nat} : ∀ (f p : Nat) (v : Int) (i : Nat), i + f ≤ 3 → p ≤ n → 0 ≤ v → v < 10 ^ i → (nmL T n f p v).2 ≤ n ∧ 0 ≤ (nmL T n f p v).1 ∧ (nmL T n f p v).1 ≤ 999 := by
  intro f
  induction f with
  | zero =>
    intro p v i hi hp h0 h1
    refine ⟨hp, h0, ?_⟩
    show v ≤ 999
    rcases (show i = 0 ∨ i = 1 ∨ i = 2 ∨ i = 3 by omega) with q | q | q | q <;> (rw [q] at h1; omega)
  | succ f ih =>
    intro p v i hi hp h0 h1
    unfold nmL
    split
    · next c =>
      have lt := hr_lt (show 0 ≤ hr T n p by omega)
      exact ih (p + 1) _ (i + 1) (by omega) (by omega) (by omega) (by rw [Int.pow_succ]; omega)
    · refine ⟨hp, h0, ?_⟩
      show v ≤ 999
      rcases (show i = 0 ∨ i = 1 ∨ i = 2 ∨ i = 3 by omega) with q | q | q | q <;> (rw [q] at h1; omega)
theorem nm_eb {T : Nat → Int} {n most p : Nat} {e : Int} (hn : n ≤ 240) (hp : p ≤ n) (hm : most ≤ 3) (h : nm T n most p = .inl e) : -3000 ≤ e ∧ e < 0 := by
  have b := nmL_b (T := T) most p 0 0 (by omega) hp (by decide) (by decide)
  unfold nm at h
  split at h
  · split at h
    · injection h with h; omega
    · injection h
  · injection h with h; omega
theorem nm_kb {T : Nat → Int} {n most p q : Nat} {v : Int} (hp : p ≤ n) (hm : most ≤ 3) (h : nm T n most p = .inr (v, q)) : q ≤ n ∧ 0 ≤ v ∧ v ≤ 999 := by
  have b := nmL_b (T := T) most p 0 0 (by omega) hp (by decide) (by decide)
  unfold nm at h
  split at h
  · split at h
    · injection h
    · injection h with h; rw [h] at b; exact b
  · injection h
section TapeC
variable {E : gj_E} {SI : gj_I} {SJ : gj_J} {T : Nat → Int} {n p : Nat}
theorem sp_sign {Q : Int32 → gj_I → gj_J → Prop} {a : Int32} (hT : CT T SI) (hn : n ≤ 240) (h3 : SI 1 3 = i3 n) (i : Nat) (hi : i < 1000) (ha : a = i3 i) (h : Q (i3 (hr T n i)) SI SJ) : DoI E 73 [(.ref 1), (.int a)] SI SJ Q := by
  subst ha
  refine st_73 _ SI SJ ?_
  rw [h3, i3_lt0 (by omega) (by omega), i3_le (by omega) (by omega) (by omega) (by omega), i3_le (by omega) (by omega) (by omega) (by omega), i3_in (by omega) (by omega), i3_n (by omega) (by omega)]
  unfold hr at h
  refine ⟨fun c => by omega, fun _ => ⟨fun c => ?_, fun c => ⟨fun d => by omega, fun d => ⟨by omega, ?_⟩⟩⟩⟩
  · rw [if_neg (by omega)] at h; exact h
  · rw [if_pos (by omega)] at h
    rw [show ((i : Nat) : Int).toNat = i by omega, (hT i (by omega)).2.2]; exact h
theorem sp_isDigC {Q : Int32 → gj_I → gj_J → Prop} (hP : CP T n p SI) (h : Q (ib (dg T n p)) SI SJ) : DoI E 74 [(.ref 1)] SI SJ Q := by
  obtain ⟨h1, h2, h3, h4, h5⟩ := hP
  have b := hr_bC h1 h2 p
  refine st_74 SI SJ (sp_sign h1 h2 h4 p (by omega) h5 ?_)
  rw [i3_lt (by omega) (by omega) (by omega) (by omega), i3_lt (by omega) (by omega) (by omega) (by omega)]
  refine ⟨fun c => ?_, fun c => ⟨fun d => ?_, fun d => ?_⟩⟩
  · rw [ib_f (fun z => by omega)] at h; exact h
  · rw [ib_f (fun z => by omega)] at h; exact h
  · rw [ib_t (by omega)] at h; exact h
theorem sp_accept {Q : Int32 → gj_I → gj_J → Prop} {a : Int32} (hP : CP T n p SI) (c : Int) (hc : 0 ≤ c ∧ c ≤ 255) (ha : a = i3 c) (h1 : hr T n p = c → ∀ SI', FI LCp SI SI' → CP T n (p + 1) SI' → Q (i3 1) SI' SJ) (h0 : hr T n p ≠ c → Q (i3 0) SI SJ) : DoI E 75 [(.ref 1), (.int a)] SI SJ Q := by
  subst ha
  have b := hr_bC hP.1 hP.2.1 p
  have hn := hP.2.1
  have hp := hP.2.2.1
  refine st_75 _ SI SJ (sp_sign hP.1 hP.2.1 hP.2.2.2.1 p (by omega) hP.2.2.2.2 ?_)
  rw [i3_eq (by omega) (by omega) (by omega) (by omega), hP.2.2.2.2]
  refine ⟨fun q => ?_, fun q => h0 q⟩
  have f : FI LCp SI (gj_u2 SI 1 2 (i3 (p : Nat) + i3 1)) := FI.rf.u ⟨rfl, rfl⟩
  have lt := hr_lt (show 0 ≤ hr T n p by omega)
  exact h1 q _ f (hP.to f (by omega) (by rw [u2_s, i3_add]; rfl))
theorem sp_faultC {Q : Int32 → gj_I → gj_J → Prop} {a : Int32} (h2 : SI 1 2 = i3 p) (w : Int) (ha : a = i3 w) (h : Q (i3 (-1000 * w - p)) SI SJ) : DoI E 76 [(.ref 1), (.int a)] SI SJ Q := by
  subst ha
  refine st_76 _ SI SJ ?_
  rw [h2, i3_mul, i3_sub]; exact h
theorem sp_numberC {Q : Int32 → gj_I → gj_J → Prop} {a : Int32} (hP : CP T n p SI) (most : Nat) (hm : 2 ≤ most ∧ most ≤ 3) (ha : a = i3 most) (hE : ∀ e SI', nm T n most p = .inl e → FI LCp SI SI' → (-3000 ≤ e ∧ e < 0) → Q (i3 e) SI' SJ) (hK : ∀ v q SI', nm T n most p = .inr (v, q) → FI LCp SI SI' → CP T n q SI' → (0 ≤ v ∧ v ≤ 999) → Q (i3 v) SI' SJ) : DoI E 77 [(.ref 1), (.int a)] SI SJ Q := by
  subst ha
  have hn := hP.2.1
  have hp := hP.2.2.1
  have bE : ∀ e, nm T n most p = .inl e → -3000 ≤ e ∧ e < 0 := fun e he => nm_eb hn hp (by omega) he
  have bK : ∀ v q, nm T n most p = .inr (v, q) → q ≤ n ∧ 0 ≤ v ∧ v ≤ 999 := fun v q he => nm_kb hp (by omega) he
  refine st_77 _ SI SJ (sp_isDigC hP ⟨fun c => ?_, fun c => ?_⟩)
  · rw [ib_0, Decidable.not_not] at c
    have en : nm T n most p = if dg T n (nmL T n most p 0).2 ∧ most ≠ 1 then .inl (-2000 - (nmL T n most p 0).2) else .inr (nmL T n most p 0) := if_pos c
    have last : ∀ (i : Nat) (v : Int) (A : gj_I), i ≤ most → nmL T n most p 0 = (v, p + i) → FI LCp SI A → CP T n (p + i) A → DoI E 74 [(.ref 1)] A SJ (fun r1 SI2 SJ2 => (r1 = 0 → Q (i3 v) SI2 SJ2) ∧ (¬ r1 = 0 → DoI E 76 [(.ref 1), (.int (i3 2))] SI2 SJ2 (fun r3 SI4 SJ4 => Q r3 SI4 SJ4))) := by
      intro i v A hi e f hA
      rw [e] at en
      refine sp_isDigC hA ⟨fun d => ?_, fun d => ?_⟩
      · rw [ib_0] at d
        rw [if_neg (fun z => d z.1)] at en
        exact hK v (p + i) A en f hA (bK _ _ en).2
      · rw [ib_0, Decidable.not_not] at d
        rw [if_pos ⟨d, by omega⟩] at en
        exact sp_faultC hA.2.2.2.2 2 rfl (hE _ A en f (bE _ en))
    have loop : ∀ (f i : Nat) (v : Int) (A : gj_I), i + f = most → nmL T n f (p + i) v = nmL T n most p 0 → FI LCp SI A → CP T n (p + i) A → GoI E mt_77 17 [some (.ref 1), some (.int (i3 most)), some (.int (i3 v)), some (.int (i3 (i : Nat)))] A SJ Q := by
      intro f
      induction f with
      | zero =>
        intro i v A hi e fA hA
        refine lp_77_17 _ _ _ A SJ ⟨fun _ => last i v A (by omega) e.symm fA hA, fun q => ?_⟩
        rw [i3_le (by omega) (by omega) (by omega) (by omega)] at q; omega
      | succ f ih =>
        intro i v A hi e fA hA
        have pn := hA.2.2.1
        have b := hr_bC hA.1 hA.2.1 (p + i)
        refine lp_77_17 _ _ _ A SJ ⟨fun q => ?_, fun _ => sp_isDigC hA ⟨fun d => ?_, fun d => ?_⟩⟩
        · rw [i3_le (by omega) (by omega) (by omega) (by omega)] at q; omega
        · rw [ib_0] at d
          rw [nmL_n d] at e
          exact last i v A (by omega) e.symm fA hA
        · rw [ib_0, Decidable.not_not] at d
          have lt := hr_lt (show 0 ≤ hr T n (p + i) by omega)
          refine sp_sign hA.1 hA.2.1 hA.2.2.2.1 (p + i) (by omega) hA.2.2.2.2 ?_
          rw [i3_mul, i3_add, i3_sub, i3_add, hA.2.2.2.2, i3_add]
          have f2 : FI LCp A (gj_u2 A 1 2 (i3 (((p + i : Nat) : Int) + 1))) := FI.rf.u ⟨rfl, rfl⟩
          refine ih (i + 1) _ _ (by omega) ?_ (fA.tr f2) (hA.to f2 (by omega) (by rw [u2_s]; rfl))
          rw [← e]
          exact (if_pos d).symm
    exact loop most 0 0 SI (by omega) rfl FI.rf hP
  · rw [ib_0] at c
    have en : nm T n most p = .inl (-1000 - p) := if_neg c
    exact sp_faultC hP.2.2.2.2 1 rfl (hE _ SI en FI.rf (bE _ en))
theorem sp_offersC {Q : Int32 → gj_I → gj_J → Prop} {a b c : Int32} (tp x l m : Int) (xr : -2147483648 ≤ x ∧ x < 2147483648) (hl : 0 ≤ l ∧ l ≤ 1000) (hm : 0 ≤ m ∧ m ≤ 1000) (h1 : SI 1 1 = i3 tp) (ht : 0 ≤ tp ∧ tp ≤ 240) (ha : a = i3 x) (hb : b = i3 l) (hc : c = i3 m) (h : Q (ib (l ≤ x ∧ x ≤ m ∧ x ≤ tp)) SI SJ) : DoI E 69 [(.ref 1), (.int a), (.int b), (.int c)] SI SJ Q := by
  subst ha; subst hb; subst hc
  refine st_69 _ _ _ SI SJ ?_
  rw [h1, i3_lt (by omega) (by omega) (by omega) (by omega), i3_lt (by omega) (by omega) (by omega) (by omega), i3_lt (by omega) (by omega) (by omega) (by omega)]
  refine ⟨fun q => ?_, fun q => ⟨fun q2 => ?_, fun q2 => ⟨fun q3 => ?_, fun q3 => ?_⟩⟩⟩
  · rw [ib_f (by omega)] at h; exact h
  · rw [ib_f (by omega)] at h; exact h
  · rw [ib_f (by omega)] at h; exact h
  · rw [ib_t (by omega)] at h; exact h
theorem sp_open {Q : gj_I → gj_J → Prop} {a : Int32} (tp x : Int) (hT : CT T SI) (h1 : SI 1 1 = i3 tp) (ht : 0 ≤ tp ∧ tp ≤ 240) (hx : 0 ≤ x ∧ x ≤ tp) (ha : a = i3 x) (h : ∀ SI', FI (fun o k => o = 1 ∧ (k = 2 ∨ k = 3)) SI SI' → CP T x.toNat 0 SI' → Q SI' SJ) : DoV E 70 [(.ref 1), (.int a)] SI SJ Q := by
  subst ha
  refine st_70 _ SI SJ ?_
  rw [h1, i3_ifmin (by omega) (by omega) (by omega) (by omega)]
  refine h _ ((FI.rf.u ⟨rfl, Or.inl rfl⟩).u ⟨rfl, Or.inr rfl⟩) ⟨fun k hk => ?_, by omega, by omega, ?_, ?_⟩
  · rw [u2_n (by omega), u2_n (by omega)]; exact hT k hk
  · rw [u2_s]; refine i3_c ?_; split <;> omega
  · rw [u2_n (by omega), u2_s]; rfl
/-- how many bytes lie on the tape, and which -/
def CTp (T : Nat → Int) (tp : Int) (SI : gj_I) : Prop := CT T SI ∧ SI 1 1 = i3 tp ∧ 0 ≤ tp ∧ tp ≤ 240
theorem sp_wipe {Q : gj_I → gj_J → Prop} (hT : CT T SI) (h : ∀ SI', FI (fun o k => o = 1 ∧ (k = 1 ∨ k = 2 ∨ k = 3)) SI SI' → CTp T 0 SI' → Q SI' SJ) : DoV E 71 [(.ref 1)] SI SJ Q := by
  refine st_71 SI SJ ?_
  refine h _ (((FI.rf.u ⟨rfl, by omega⟩).u ⟨rfl, by omega⟩).u ⟨rfl, by omega⟩) ⟨fun k hk => ?_, ?_, by decide, by decide⟩
  · rw [u2_n (by omega), u2_n (by omega), u2_n (by omega)]; exact hT k hk
  · rw [u2_n (by omega), u2_n (by omega), u2_s]
theorem sp_ended {Q : Int32 → gj_I → gj_J → Prop} (hP : CP T n p SI) (h : Q (ib (n ≤ p)) SI SJ) : DoI E 72 [(.ref 1)] SI SJ Q := by
  obtain ⟨h1, h2, h3, h4, h5⟩ := hP
  refine st_72 SI SJ ?_
  rw [h4, h5, i3_lt (by omega) (by omega) (by omega) (by omega)]
  refine ⟨fun q => ?_, fun q => ?_⟩
  · rw [ib_f (by omega)] at h; exact h
  · rw [ib_t (by omega)] at h; exact h
end TapeC
