/-! 47: the reference reads a text -/
def RT (T : Nat → Int) (SI : gj_I) : Prop := ∀ k, k < 240 → 0 ≤ T k ∧ T k ≤ 255 ∧ SI 89 k &&& i3 255 = i3 (T k)
def hr (T : Nat → Int) (n p : Nat) : Int := if p < n then T p else -1
abbrev dg (T : Nat → Int) (n p : Nat) : Prop := 48 ≤ hr T n p ∧ hr T n p ≤ 57
/-- the text of n bytes is read up to p -/
def RP (T : Nat → Int) (n p : Nat) (SI : gj_I) : Prop := RT T SI ∧ n ≤ 240 ∧ p ≤ n ∧ SI 81 15 = i3 n ∧ SI 81 14 = i3 p
def nmL (T : Nat → Int) (n : Nat) : Nat → Nat → Int → Int × Nat
  | 0, p, v => (v, p)
  | f + 1, p, v => if dg T n p then nmL T n f (p + 1) (10 * v + hr T n p - 48) else (v, p)
/-- a number of so many digits at most -/
def nm (T : Nat → Int) (n most p : Nat) : Int ⊕ (Int × Nat) := if dg T n p then (if dg T n (nmL T n most p 0).2 ∧ most ≠ 1 then .inl (-2000 - (nmL T n most p 0).2) else .inr (nmL T n most p 0)) else .inl (-1000 - p)
/-- perhaps below 0 -/
def nms (T : Nat → Int) (n most p : Nat) : Int ⊕ (Int × Nat) := if hr T n p = 45 then (match nm T n most (p + 1) with
  | .inl e => .inl e
  | .inr (v, q) => .inr (-v, q)) else nm T n most p
theorem hr_b {T : Nat → Int} {SI : gj_I} (h : RT T SI) {n : Nat} (hn : n ≤ 240) (p : Nat) : -1 ≤ hr T n p ∧ hr T n p ≤ 255 := by
  unfold hr
  split
  · have := h p (by omega); omega
  · omega
theorem hr_lt {T : Nat → Int} {n p : Nat} (h : 0 ≤ hr T n p) : p < n := by
  unfold hr at h
  split at h
  · assumption
  · omega
def LRN (o k : Nat) : Prop := o = 81 ∧ (k = 14 ∨ k = 16 ∨ k = 17)
theorem RT.f {T : Nat → Int} {L : Nat → Nat → Prop} {A B : gj_I} (h : RT T A) (f : FI L A B) (hl : ∀ k, ¬ L 89 k) : RT T B := fun k hk => by rw [f 89 k (hl k)]; exact h k hk
theorem LRN_89 : ∀ k, ¬ LRN 89 k := fun k => by unfold LRN; omega
theorem LRN_i {k : Nat} (h : k = 14 ∨ k = 16 ∨ k = 17) : LRN 81 k := ⟨rfl, h⟩
theorem RP.f {T : Nat → Int} {n p q : Nat} {A B : gj_I} (h : RP T n p A) (f : FI LRN A B) (hq : q ≤ n) (e : B 81 14 = i3 q) : RP T n q B := ⟨h.1.f f LRN_89, h.2.1, hq, by rw [f 81 15 (by unfold LRN; omega)]; exact h.2.2.2.1, e⟩
section Text
variable {E : gj_E} {SI : gj_I} {SJ : gj_J} {T : Nat → Int} {n p : Nat}
theorem sp_here {Q : Int32 → gj_I → gj_J → Prop} (hP : RP T n p SI) (h : Q (i3 (hr T n p)) SI SJ) : DoI E 207 [(.ref 81)] SI SJ Q := by
  obtain ⟨h1, h2, h3, h4, h5⟩ := hP
  refine st_207 SI SJ ?_
  rw [h4, h5, i3_le (by omega) (by omega) (by omega) (by omega), i3_in (by omega) (by omega), i3_n (by omega) (by omega)]
  refine ⟨fun c => ?_, fun c => ⟨by omega, ?_⟩⟩
  · unfold hr at h; rw [if_neg (by omega)] at h; exact h
  · unfold hr at h; rw [if_pos (by omega)] at h
    rw [show ((p : Nat) : Int).toNat = p by omega, (h1 p (by omega)).2.2]; exact h
theorem sp_isDigit {Q : Int32 → gj_I → gj_J → Prop} (hP : RP T n p SI) (h : Q (ib (dg T n p)) SI SJ) : DoI E 208 [(.ref 81)] SI SJ Q := by
  have b := hr_b hP.1 hP.2.1 p
  refine st_208 SI SJ (sp_here hP ?_)
  rw [i3_64 (by omega) (by omega)]
  exact sp_in (by omega) (by omega) (by omega) (by omega) (by omega) (by omega) ⟨ib_01, h⟩
theorem sp_wrongAt {Q : Int32 → gj_I → gj_J → Prop} {a b : Int32} (w x : Int) (ha : a = i3 w) (hb : b = i3 x) (h : Q (i3 0) (gj_u2 SI 81 16 (i3 (-1000 * w - x))) SJ) : DoI E 209 [(.ref 81), (.int a), (.int b)] SI SJ Q := by
  subst ha; subst hb
  refine st_209 _ _ SI SJ ?_
  rw [i3_mul, i3_sub]; exact h
theorem sp_takesSign {Q : Int32 → gj_I → gj_J → Prop} {a : Int32} (hP : RP T n p SI) (c : Int) (hc : 0 ≤ c ∧ c ≤ 255) (ha : a = i3 c) (h1 : hr T n p = c → ∀ SI', FI LRN SI SI' → RP T n (p + 1) SI' → Q (i3 1) SI' SJ) (h0 : hr T n p ≠ c → ∀ SI', FI LRN SI SI' → SI' 81 16 = i3 (-1000 - p) → Q (i3 0) SI' SJ) : DoI E 210 [(.ref 81), (.int a)] SI SJ Q := by
  subst ha
  have b := hr_b hP.1 hP.2.1 p
  have hp := hP.2.1
  refine st_210 _ SI SJ (sp_here hP ?_)
  rw [i3_eq (by omega) (by omega) (by omega) (by omega), hP.2.2.2.2]
  refine ⟨fun q => ?_, fun q => ?_⟩
  · have f : FI LRN SI (gj_u2 SI 81 14 (i3 (p : Nat) + i3 1)) := FI.rf.u (LRN_i (by omega))
    have lt := hr_lt (show 0 ≤ hr T n p by omega)
    exact h1 q _ f (hP.f f (by omega) (by rw [u2_s, i3_add]; rfl))
  · refine sp_wrongAt 1 p rfl rfl ⟨Or.inl rfl, h0 q _ (FI.rf.u (LRN_i (by omega))) (by rw [u2_s]; rfl)⟩
theorem nmL_n {f : Nat} {v : Int} (h : ¬ dg T n p) : nmL T n f p v = (v, p) := by
  cases f with
  | zero => rfl
  | succ f => exact if_neg h
theorem sp_rn_lp {Q : Int32 → gj_I → gj_J → Prop} (most s0 : Nat) (less : Bool) (hm : 1 ≤ most ∧ most ≤ 3) (h1 : most = 1 → less = false) {R : Int × Nat} (hE : ∀ SI', dg T n R.2 ∧ most ≠ 1 → FI LRN SI SI' → SI' 81 16 = i3 (-2000 - R.2) → Q (i3 0) SI' SJ) (hK : ∀ SI', ¬ (dg T n R.2 ∧ most ≠ 1) → FI LRN SI SI' → RP T n R.2 SI' → R.2 ≤ n → R.1.natAbs ≤ 999 → SI' 81 17 = i3 (if less then -R.1 else R.1) → Q (i3 1) SI' SJ) : ∀ (f i : Nat) (v : Int) (A : gj_I), i + f = most → nmL T n f (s0 + i) v = R → FI LRN SI A → RP T n (s0 + i) A → A 81 17 = i3 v → (0 ≤ v ∧ v < 10 ^ i) → GoI E mt_211 61 [some (.ref 81), some (.int (i3 most)), none, some (.int (i3 (if less then 1 else 0))), some (.int (i3 s0))] A SJ Q := by
  have done : ∀ (i : Nat) (v : Int) (A : gj_I), i ≤ most → R = (v, s0 + i) → ¬ (dg T n (s0 + i) ∧ most ≠ 1) → FI LRN SI A → RP T n (s0 + i) A → A 81 17 = i3 v → (0 ≤ v ∧ v < 10 ^ i) → (i3 (if less then 1 else 0) = 0 → Q (i3 1) A SJ) ∧ (¬ i3 (if less then 1 else 0) = 0 → Q (i3 1) (gj_u2 A 81 17 (-(A 81 17))) SJ) := by
    intro i v A hi hR hd f1 hP h17 hv
    have hv2 : v < 1000 := by
      rcases (show i = 0 ∨ i = 1 ∨ i = 2 ∨ i = 3 by omega) with q | q | q | q <;> (rw [q] at hv; omega)
    subst hR
    cases less with
    | false => exact ⟨fun _ => hK A hd f1 hP hP.2.2.1 (by dsimp only; omega) (by rw [h17]; rfl), fun q => absurd rfl q⟩
    | true =>
      refine ⟨fun q => absurd q (by decide), fun _ => ?_⟩
      have f2 : FI LRN A (gj_u2 A 81 17 (-(A 81 17))) := FI.rf.u (LRN_i (by omega))
      exact hK _ hd (f1.tr f2) (hP.f f2 hP.2.2.1 (by rw [u2_n (by omega)]; exact hP.2.2.2.2)) hP.2.2.1 (by dsimp only; omega) (by rw [u2_s, h17, i3_neg]; rfl)
  intro f
  induction f with
  | zero =>
    intro i v A hi hR f1 hP h17 hv
    have hn := hP.2.1; have hpn := hP.2.2.1
    have hR' : R = (v, s0 + i) := hR.symm
    refine lp_211_61 _ _ _ A SJ (sp_isDigit hP ⟨fun c => ?_, fun c => ?_⟩)
    · rw [ib_0] at c
      exact done i v A (by omega) hR' (fun z => c z.1) f1 hP h17 hv
    · rw [ib_0, Decidable.not_not] at c
      rw [hP.2.2.2.2, i3_add, i3_eq (by omega) (by omega) (by omega) (by omega), i3_eq (by omega) (by omega) (by omega) (by omega)]
      refine ⟨fun q => by omega, fun _ => ⟨fun q => ?_, fun q => ?_⟩⟩
      · refine sp_wrongAt 2 ((s0 + i : Nat) : Int) rfl rfl ⟨Or.inl rfl, ?_⟩
        subst hR'
        exact hE _ ⟨c, by omega⟩ (f1.u (LRN_i (by omega))) (by rw [u2_s]; rfl)
      · have l0 := h1 (by omega)
        subst l0
        exact (done i v A (by omega) hR' (by omega) f1 hP h17 hv).1 rfl
  | succ f ih =>
    intro i v A hi hR f1 hP h17 hv
    have hn := hP.2.1; have hpn := hP.2.2.1
    refine lp_211_61 _ _ _ A SJ (sp_isDigit hP ⟨fun c => ?_, fun c => ?_⟩)
    · rw [ib_0] at c
      rw [nmL_n c] at hR
      exact done i v A (by omega) hR.symm (fun z => c z.1) f1 hP h17 hv
    · rw [ib_0, Decidable.not_not] at c
      have b := hr_b hP.1 hP.2.1 (s0 + i)
      have lt := hr_lt (show 0 ≤ hr T n (s0 + i) by omega)
      rw [hP.2.2.2.2, i3_add, i3_eq (by omega) (by omega) (by omega) (by omega)]
      refine ⟨fun _ => sp_here hP ?_, fun q => by omega⟩
      rw [h17, hP.2.2.2.2]
      simp only [i3_mul, i3_add, i3_sub]
      have hR2 : nmL T n f (s0 + i + 1) (10 * v + hr T n (s0 + i) - 48) = R := by rw [← hR]; exact (if_pos c).symm
      have f2 : FI LRN A (gj_u2 (gj_u2 A 81 17 (i3 (10 * v + hr T n (s0 + i) - 48))) 81 14 (i3 (((s0 + i : Nat) : Int) + 1))) := (FI.rf.u (LRN_i (by omega))).u (LRN_i (by omega))
      refine ih (i + 1) _ _ (by omega) hR2 (f1.tr f2) (hP.f f2 (by omega) (by rw [u2_s]; rfl)) (by rw [u2_n (by omega), u2_s]) ?_
      rw [Int.pow_succ]; omega
theorem nmL_le (T : Nat → Int) (n : Nat) : ∀ (f p : Nat) (v : Int), p ≤ (nmL T n f p v).2 := by
  intro f
  induction f with
  | zero => intro p v; exact Nat.le_refl p
  | succ f ih =>
    intro p v
    unfold nmL
    split
    · have := ih (p + 1) (10 * v + hr T n p - 48); omega
    · exact Nat.le_refl p
/-- with its sign, where there may be one -/
def nmz (T : Nat → Int) (n most : Nat) (s : Bool) (p : Nat) : Int ⊕ (Int × Nat) := if s then nms T n most p else nm T n most p
theorem rn_core {Q : Int32 → gj_I → gj_J → Prop} (most : Nat) (less : Bool) (hP : RP T n p SI) (hm : 1 ≤ most ∧ most ≤ 3) (h1 : most = 1 → less = false) (hE : ∀ e SI', nm T n most p = .inl e → FI LRN SI SI' → SI' 81 16 = i3 e → Q (i3 0) SI' SJ) (hK : ∀ v q SI', nm T n most p = .inr (v, q) → FI LRN SI SI' → RP T n q SI' → v.natAbs ≤ 999 → SI' 81 17 = i3 (if less then -v else v) → Q (i3 1) SI' SJ) : DoI E 208 [(.ref 81)] SI SJ (fun r1 SI2 SJ2 => (¬ r1 = 0 → GoI E mt_211 61 [some (.ref 81), some (.int (i3 most)), none, some (.int (i3 (if less then 1 else 0))), some (.int (i3 p))] (gj_u2 SI2 81 17 (i3 0)) SJ2 Q) ∧ (r1 = 0 → DoI E 209 [(.ref 81), (.int (i3 1)), (.int (SI2 81 14))] SI2 SJ2 (fun r3 SI4 SJ4 => (r3 = 0 ∨ r3 = 1) ∧ (Q r3 SI4 SJ4)))) := by
  refine sp_isDigit hP ⟨fun c => ?_, fun c => ?_⟩
  · rw [ib_0, Decidable.not_not] at c
    have f1 : FI LRN SI (gj_u2 SI 81 17 (i3 0)) := FI.rf.u (LRN_i (by omega))
    refine sp_rn_lp (SI := SI) (SJ := SJ) most p less hm h1 (R := nmL T n most p 0) (fun A z f e => ?_) (fun A z f e1 e2 e3 e4 => ?_) most 0 0 _ (by omega) rfl f1 (hP.f f1 hP.2.2.1 (by rw [u2_n (by omega)]; exact hP.2.2.2.2)) u2_s (by decide)
    · exact hE _ A (by unfold nm; rw [if_pos c, if_pos z]) f e
    · exact hK _ _ A (by unfold nm; rw [if_pos c, if_neg z]) f e1 e3 e4
  · rw [ib_0] at c
    rw [hP.2.2.2.2]
    exact sp_wrongAt 1 p rfl rfl ⟨Or.inl rfl, hE (-1000 - p) _ (if_neg c) (FI.rf.u (LRN_i (by omega))) (by rw [u2_s]; rfl)⟩
theorem sp_readsNumber {Q : Int32 → gj_I → gj_J → Prop} {a b : Int32} (hP : RP T n p SI) (most : Nat) (s : Bool) (hm : 1 ≤ most ∧ most ≤ 3) (h1 : most = 1 → s = false) (ha : a = i3 most) (hb : b = i3 (if s then 1 else 0)) (hE : ∀ e SI', nmz T n most s p = .inl e → FI LRN SI SI' → SI' 81 16 = i3 e → Q (i3 0) SI' SJ) (hK : ∀ v q SI', nmz T n most s p = .inr (v, q) → FI LRN SI SI' → RP T n q SI' → v.natAbs ≤ 999 → SI' 81 17 = i3 v → Q (i3 1) SI' SJ) : DoI E 211 [(.ref 81), (.int a), (.int b)] SI SJ Q := by
  subst ha; subst hb
  refine st_211 _ _ SI SJ ?_
  cases s with
  | false =>
    refine ⟨fun _ => ⟨fun _ => ?_, fun q => absurd rfl q⟩, fun q => absurd rfl q⟩
    rw [hP.2.2.2.2]
    exact rn_core most false hP hm h1 hE hK
  | true =>
    refine ⟨fun q => absurd q (by decide), fun _ => sp_here hP ?_⟩
    have b := hr_b hP.1 hP.2.1 p
    rw [i3_eq (by omega) (by omega) (by omega) (by omega)]
    refine ⟨fun c => ⟨fun _ => ?_, fun q => absurd rfl q⟩, fun c => ⟨fun q => absurd q (by decide), fun _ => ?_⟩⟩
    · rw [hP.2.2.2.2]
      have e1 : nmz T n most true p = nm T n most p := by unfold nmz nms; rw [if_pos rfl, if_neg c]
      rw [e1] at hE hK
      exact rn_core most false hP hm (fun _ => rfl) hE hK
    · have lt := hr_lt (show 0 ≤ hr T n p by omega)
      rw [hP.2.2.2.2, i3_add]
      have f1 : FI LRN SI (gj_u2 SI 81 14 (i3 ((p : Int) + 1))) := FI.rf.u (LRN_i (by omega))
      have hP2 := hP.f f1 (q := p + 1) (by omega) (by rw [u2_s]; rfl)
      have e1 : nmz T n most true p = (match nm T n most (p + 1) with
        | .inl e => .inl e
        | .inr (v, q) => .inr (-v, q)) := by unfold nmz nms; rw [if_pos rfl, if_pos c]
      rw [e1] at hE hK
      refine rn_core most true hP2 hm (fun z => absurd (h1 z) (by decide)) (fun e A z f g => ?_) (fun v q A z f g1 g2 g3 => ?_)
      · rw [z] at hE; exact hE e A rfl (f1.tr f) g
      · rw [z] at hK; exact hK (-v) q A rfl (f1.tr f) g1 (by omega) g3
theorem sp_begins {Q : Int32 → gj_I → gj_J → Prop} {a b : Int32} (x most t : Int) (hx : -2147483648 ≤ x ∧ x < 2147483648) (hm : 1 ≤ most ∧ most ≤ 240) (hT : RT T SI) (ht : SI 81 13 = i3 t) (ht2 : 0 ≤ t ∧ t ≤ 240) (ha : a = i3 x) (hb : b = i3 most) (h1 : 1 ≤ x ∧ x ≤ most ∧ x ≤ t → ∀ SI', FI (fun o k => o = 81 ∧ (k = 13 ∨ k = 14 ∨ k = 15)) SI SI' → SI' 81 13 = i3 0 → RP T x.toNat 0 SI' → Q (i3 1) SI' SJ) (h0 : ¬ (1 ≤ x ∧ x ≤ most ∧ x ≤ t) → Q (i3 0) SI SJ) : DoI E 212 [(.ref 81), (.int a), (.int b)] SI SJ Q := by
  subst ha; subst hb
  refine st_212 _ _ SI SJ ?_
  rw [i3_64 (by omega) (by omega), i3_64 (by omega) (by omega)]
  refine sp_in (by omega) (by omega) (by omega) (by omega) (by omega) (by omega) ⟨fun c => ?_, fun c => ?_⟩
  · rw [ib_0] at c; exact h0 (by omega)
  · rw [ib_0, Decidable.not_not] at c
    rw [ht, i3_le (by omega) (by omega) (by omega) (by omega)]
    refine ⟨fun d => ?_, fun d => h0 (by omega)⟩
    refine h1 (by omega) _ (((FI.rf.u ⟨rfl, by omega⟩).u ⟨rfl, by omega⟩).u ⟨rfl, by omega⟩) u2_s ⟨fun k hk => ?_, by omega, by omega, ?_, ?_⟩
    · rw [u2_n (by omega), u2_n (by omega), u2_n (by omega)]; exact hT k hk
    · rw [u2_n (by omega), u2_s]; congr 1; omega
    · rw [u2_n (by omega), u2_n (by omega), u2_s]; rfl
end Text
