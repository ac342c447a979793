/-! 48: the reference reads a plate -/
def tu (t : Nat → V3) (c : Nat) (v : V3) : Nat → V3 := fun j => if j = c then v else t j
theorem tu_s {t : Nat → V3} {c : Nat} {v : V3} : tu t c v c = v := if_pos rfl
theorem tu_n {t : Nat → V3} {c j : Nat} {v : V3} (h : j ≠ c) : tu t c v j = t j := if_neg h
/-- a corner, where c have been read -/
def crnP (T : Nat → Int) (n c p : Nat) : Int ⊕ (V3 × Nat) := if c = 8 ∧ dg T n p then .inl (-4000 - p) else match nm T n 1 p with
  | .inl e => .inl e
  | .inr (x, q) => if hr T n q = 44 then (match nm T n 1 (q + 1) with
    | .inl e => .inl e
    | .inr (y, r) => .inr ((x, y, 0), r)) else .inl (-1000 - q)
/-- what follows the first, each behind its semicolon -/
def rdT (it : Nat → Nat → Int ⊕ (V3 × Nat)) (T : Nat → Int) (n : Nat) : Nat → Nat → Nat → (Nat → V3) → Int ⊕ (Nat × (Nat → V3))
  | 0, _, _, _ => .inl (-1)
  | f + 1, c, q, t => if q < n then (if hr T n q = 59 then (match it c (q + 1) with
    | .inl e => .inl e
    | .inr (v, r) => rdT it T n f (c + 1) r (tu t c v)) else .inl (-1000 - q)) else .inr (c, t)
def rd (it : Nat → Nat → Int ⊕ (V3 × Nat)) (T : Nat → Int) (n most : Nat) : Int ⊕ (Nat × (Nat → V3)) := match it 0 0 with
  | .inl e => .inl e
  | .inr (v, q) => rdT it T n most 1 q (tu (fun _ => (0, 0, 0)) 0 v)
theorem nm1 {T : Nat → Int} {n p q : Nat} {v : Int} (h : nm T n 1 p = .inr (v, q)) : 0 ≤ v ∧ v ≤ 9 ∧ q = p + 1 := by
  unfold nm at h
  split at h
  · next c =>
    rw [if_neg (by omega)] at h
    unfold nmL at h
    rw [if_pos c] at h
    unfold nmL at h
    injection h with h
    injection h with h1 h2
    omega
  · injection h
theorem nm_lt {T : Nat → Int} {n most p q : Nat} {v : Int} (hm : 1 ≤ most) (h : nm T n most p = .inr (v, q)) : p < q := by
  unfold nm at h
  split at h
  · next c =>
    split at h
    · injection h
    · injection h with h
      obtain ⟨m, rfl⟩ : ∃ m, most = m + 1 := ⟨most - 1, by omega⟩
      unfold nmL at h
      rw [if_pos c] at h
      have := nmL_le T n m (p + 1) (10 * 0 + hr T n p - 48)
      rw [h] at this
      exact this
  · injection h
def LRC (o k : Nat) : Prop := (o = 81 ∧ (k = 14 ∨ k = 16 ∨ k = 17 ∨ k = 19)) ∨ o = 90
theorem LRN_C : ∀ o k, LRN o k → LRC o k := fun o k h => Or.inl ⟨h.1, by rcases h.2 with h | h | h <;> omega⟩
def TD (t : Nat → V3) (c : Nat) (SI : gj_I) : Prop := SI 81 19 = i3 c ∧ ∀ j, j < c → SI 90 (2 * j) = i3 (t j).1 ∧ SI 90 (2 * j + 1) = i3 (t j).2.1
theorem TD.f {t : Nat → V3} {c : Nat} {A B : gj_I} (h : TD t c A) (f : FI LRN A B) : TD t c B := ⟨by rw [f 81 19 (by unfold LRN; omega)]; exact h.1, fun j hj => by rw [f 90 _ (by unfold LRN; omega), f 90 _ (by unfold LRN; omega)]; exact h.2 j hj⟩
section Corner
variable {E : gj_E} {SI : gj_I} {SJ : gj_J} {T : Nat → Int} {n p c : Nat} {t : Nat → V3}
theorem cr_core {Q : Int32 → gj_I → gj_J → Prop} (hP : RP T n p SI) (hD : TD t c SI) (hc : c ≤ 8) (hn8 : ¬ (c = 8 ∧ dg T n p)) (hE : ∀ e SI', crnP T n c p = .inl e → FI LRC SI SI' → SI' 81 16 = i3 e → Q (i3 0) SI' SJ) (hK : ∀ v q SI', crnP T n c p = .inr (v, q) → c < 8 → FI LRC SI SI' → RP T n q SI' → TD (tu t c v) (c + 1) SI' → (0 ≤ v.1 ∧ v.1 ≤ 9 ∧ 0 ≤ v.2.1 ∧ v.2.1 ≤ 9) → Q (i3 1) SI' SJ) : DoI E 211 [(.ref 81), (.int (i3 1)), (.int (i3 0))] SI SJ (fun r1 SI2 SJ2 => (¬ r1 = 0 → DoI E 210 [(.ref 81), (.int (i3 44))] SI2 SJ2 (fun r3 SI4 SJ4 => (r3 = 0 → Q (i3 0) SI4 SJ4) ∧ (¬ r3 = 0 → DoI E 211 [(.ref 81), (.int (i3 1)), (.int (i3 0))] SI4 SJ4 (fun r5 SI6 SJ6 => (¬ r5 = 0 → vp_in ((i3 2) * (SI6 81 19)) 40 ∧ (vp_in (((i3 2) * (SI6 81 19)) + (i3 1)) 40 ∧ (Q (i3 1) (gj_u2 (gj_u2 (gj_u2 SI6 90 (gj_n ((i3 2) * (SI6 81 19))) (SI2 81 17)) 90 (gj_n (((i3 2) * (SI6 81 19)) + (i3 1))) (SI6 81 17)) 81 19 ((SI6 81 19) + (i3 1))) SJ6))) ∧ (r5 = 0 → Q (i3 0) SI6 SJ6))))) ∧ (r1 = 0 → Q (i3 0) SI2 SJ2)) := by
  unfold crnP at hE hK
  rw [if_neg hn8] at hE hK
  refine sp_readsNumber hP 1 false (by omega) (fun _ => rfl) rfl rfl (fun e A z f g => ⟨fun q => absurd rfl q, fun _ => ?_⟩) (fun x q A z f hP2 vb g => ⟨fun _ => ?_, fun q => absurd q (by decide)⟩)
  · have z' : nm T n 1 p = .inl e := z
    rw [z'] at hE
    exact hE e A rfl (f.le LRN_C) g
  · have z' : nm T n 1 p = .inr (x, q) := z
    rw [z'] at hE hK
    dsimp only at hE hK
    have x9 := nm1 z'
    have c8 : c < 8 := by
      rcases Nat.lt_or_ge c 8 with h | h
      · exact h
      · exfalso
        have : ¬ dg T n p := fun d => hn8 ⟨by omega, d⟩
        unfold nm at z'
        rw [if_neg this] at z'
        injection z'
    refine sp_takesSign hP2 44 (by omega) rfl (fun s A2 f2 hP3 => ⟨fun q => absurd q (by decide), fun _ => ?_⟩) (fun s A2 f2 g2 => ⟨fun _ => ?_, fun q => absurd rfl q⟩)
    · rw [if_pos s] at hE hK
      refine sp_readsNumber hP3 1 false (by omega) (fun _ => rfl) rfl rfl (fun e A3 w f3 g3 => ⟨fun q => absurd rfl q, fun _ => ?_⟩) (fun y r A3 w f3 hP4 vb2 g3 => ⟨fun _ => ?_, fun q => absurd q (by decide)⟩)
      · have w' : nm T n 1 (q + 1) = .inl e := w
        rw [w'] at hE
        exact hE e A3 rfl (((f.tr f2).tr f3).le LRN_C) g3
      · have w' : nm T n 1 (q + 1) = .inr (y, r) := w
        rw [w'] at hK
        have y9 := nm1 w'
        have hD3 := ((hD.f f).f f2).f f3
        rw [hD3.1, g, g3]
        simp only [i3_mul, i3_add]
        rw [i3_in (by omega) (by omega), i3_in (by omega) (by omega), i3_n (by omega) (by omega), i3_n (by omega) (by omega), show (2 * (c : Int)).toNat = 2 * c by omega, show (2 * (c : Int) + 1).toNat = 2 * c + 1 by omega]
        refine ⟨by omega, by omega, hK (x, y, 0) r _ rfl c8 ((((((f.tr f2).tr f3).le LRN_C).u (Or.inr rfl)).u (Or.inr rfl)).u (Or.inl ⟨rfl, by omega⟩)) ?_ ⟨u2_s, fun j hj => ?_⟩ (by dsimp only; omega)⟩
        · obtain ⟨p1, p2, p3, p4, p5⟩ := hP4
          refine ⟨fun k hk => ?_, p2, p3, ?_, ?_⟩
          · rw [u2_n (by omega), u2_n (by omega), u2_n (by omega)]; exact p1 k hk
          · rw [u2_n (by omega), u2_n (by omega), u2_n (by omega)]; exact p4
          · rw [u2_n (by omega), u2_n (by omega), u2_n (by omega)]; exact p5
        · by_cases e : j = c
          · subst e
            rw [tu_s, u2_n (by omega), u2_n (by omega), u2_s, u2_n (by omega), u2_s]
            exact ⟨rfl, rfl⟩
          · rw [tu_n e, u2_n (by omega), u2_n (by omega), u2_n (by omega), u2_n (by omega), u2_n (by omega), u2_n (by omega)]
            exact hD3.2 j (by omega)
    · rw [if_neg s] at hE
      exact hE _ A2 rfl ((f.tr f2).le LRN_C) g2
theorem sp_readsCorner {Q : Int32 → gj_I → gj_J → Prop} (hP : RP T n p SI) (hD : TD t c SI) (hc : c ≤ 8) (hE : ∀ e SI', crnP T n c p = .inl e → FI LRC SI SI' → SI' 81 16 = i3 e → Q (i3 0) SI' SJ) (hK : ∀ v q SI', crnP T n c p = .inr (v, q) → c < 8 → FI LRC SI SI' → RP T n q SI' → TD (tu t c v) (c + 1) SI' → (0 ≤ v.1 ∧ v.1 ≤ 9 ∧ 0 ≤ v.2.1 ∧ v.2.1 ≤ 9) → Q (i3 1) SI' SJ) : DoI E 213 [(.ref 81)] SI SJ Q := by
  refine st_213 SI SJ ?_
  rw [hD.1, i3_eq (by omega) (by omega) (by omega) (by omega)]
  refine ⟨fun q => ?_, fun q => ?_⟩
  · exact cr_core hP hD hc (by omega) hE hK
  · refine sp_isDigit hP ⟨fun d => ?_, fun d => ?_⟩
    · rw [ib_0] at d
      exact cr_core hP hD hc (fun z => d z.2) hE hK
    · rw [ib_0, Decidable.not_not] at d
      rw [hP.2.2.2.2]
      refine sp_wrongAt 4 p rfl rfl ⟨Or.inl rfl, hE (-4000 - p) _ (if_pos ⟨by omega, d⟩) (FI.rf.u (Or.inl ⟨rfl, by omega⟩)) (by rw [u2_s]; rfl)⟩
end Corner
