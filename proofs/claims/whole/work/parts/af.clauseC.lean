/-! af: orders of the class are read -/
/-- an item, and what follows it -/
def rdC (it : Nat → Nat → Int ⊕ (V3 × Nat)) (T : Nat → Int) (n f c p : Nat) (t : Nat → V3) : Int ⊕ (Nat × (Nat → V3)) := match it c p with
  | .inl e => .inl e
  | .inr (v, q) => rdT it T n f (c + 1) q (tu t c v)
theorem rd_C (it : Nat → Nat → Int ⊕ (V3 × Nat)) (T : Nat → Int) (n most : Nat) : rd it T n most = rdC it T n most 0 0 (fun _ => (0, 0, 0)) := rfl
theorem rdC_l {it : Nat → Nat → Int ⊕ (V3 × Nat)} {T : Nat → Int} {n f c p : Nat} {t : Nat → V3} {e : Int} (h : it c p = .inl e) : rdC it T n f c p t = .inl e := by unfold rdC; rw [h]
theorem rdC_r {it : Nat → Nat → Int ⊕ (V3 × Nat)} {T : Nat → Int} {n f c p q : Nat} {t : Nat → V3} {v : V3} (h : it c p = .inr (v, q)) : rdC it T n f c p t = rdT it T n f (c + 1) q (tu t c v) := by unfold rdC; rw [h]
theorem rdT_e {it : Nat → Nat → Int ⊕ (V3 × Nat)} {T : Nat → Int} {n f c q : Nat} {t : Nat → V3} (h : n ≤ q) : rdT it T n (f + 1) c q t = .inr (c, t) := by unfold rdT; rw [if_neg (by omega)]
theorem rdT_b {it : Nat → Nat → Int ⊕ (V3 × Nat)} {T : Nat → Int} {n f c q : Nat} {t : Nat → V3} (h : q < n) (h2 : hr T n q ≠ 59) : rdT it T n (f + 1) c q t = .inl (-1000 - q) := by unfold rdT; rw [if_pos h, if_neg h2]
theorem rdT_g {it : Nat → Nat → Int ⊕ (V3 × Nat)} {T : Nat → Int} {n f c q : Nat} {t : Nat → V3} (h : q < n) (h2 : hr T n q = 59) : rdT it T n (f + 1) c q t = rdC it T n f c (q + 1) t := by
  unfold rdT; rw [if_pos h, if_pos h2]; rfl
/-- orders read -/
def OC (t : Nat → V3) (c : Nat) (SI : gj_I) : Prop := ∀ j, j < c → SI 38 j = i3 (t j).1 ∧ SI 39 j = i3 (t j).2.1 ∧ SI 40 j = i3 (t j).2.2
def LCc (o k : Nat) : Prop := (o = 1 ∧ k = 2) ∨ o = 38 ∨ o = 39 ∨ o = 40
def LCr (o k : Nat) : Prop := LCc o k ∨ (o = 37 ∧ k = 3)
theorem LCp_c : ∀ o k, LCp o k → LCc o k := fun o k h => Or.inl h
section ClauseC
variable {E : gj_E} {SI : gj_I} {SJ : gj_J} {T : Nat → Int} {n p c : Nat} {t : Nat → V3}
theorem CP.uo {A : gj_I} {o k : Nat} {x : Int32} (h : CP T n p A) (ho : o ≠ 1 ∧ o ≠ 2) : CP T n p (gj_u2 A o k x) := by
  obtain ⟨h1, h2, h3, h4, h5⟩ := h
  refine ⟨fun j hj => ?_, h2, h3, ?_, ?_⟩
  · rw [u2_n (by omega)]; exact h1 j hj
  · rw [u2_n (by omega)]; exact h4
  · rw [u2_n (by omega)]; exact h5
theorem nb_b {e : Int} {q : Nat} (hn : n ≤ 240) (hq : q ≤ n) (h : nb T n q = .inl e) : -3000 ≤ e ∧ e < 0 := by
  unfold nb at h
  split at h
  · next z => exact nm_eb hn (by have := hr_lt (show 0 ≤ hr T n q by omega); omega) (by decide) h
  · injection h with h; omega
theorem sp_clauseC {Q : Int32 → gj_I → gj_J → Prop} {a : Int32} (hP : CP T n p SI) (hc : c < 12) (hO : OC t c SI) (ha : a = i3 c) (hE : ∀ e SI', clsP T n c p = .inl e → FI LCc SI SI' → (-5000 ≤ e ∧ e < 0) → CT T SI' → Q (i3 e) SI' SJ) (hK : ∀ v q SI', clsP T n c p = .inr (v, q) → FI LCc SI SI' → CP T n q SI' → OC (tu t c v) (c + 1) SI' → Ob v → Q (i3 0) SI' SJ) : DoI E 24 [(.ref 37), (.ref 1), (.int a)] SI SJ Q := by
  subst ha
  have hn := hP.2.1
  have hp := hP.2.2.1
  unfold clsP at hE hK
  rw [if_neg (by omega)] at hE hK
  refine st_24 _ SI SJ ?_
  rw [i3_in (by omega) (by omega), i3_n (by omega) (by omega), show ((c : Nat) : Int).toNat = c by omega]
  refine sp_readWord hP (fun k1 kb A f hA => ⟨by omega, ?_⟩) (fun k1 => ⟨by omega, ?_⟩)
  · rw [if_neg k1] at hE hK
    rw [u2_s, i3_0le (by omega) (by omega)]
    refine ⟨fun _ => ?_, fun z => by omega⟩
    have hA1 : CP T n (p + wl T n 120 p) (gj_u2 A 38 c (i3 (kd T n p))) := hA.uo (by decide)
    have fA1 : FI LCc SI (gj_u2 A 38 c (i3 (kd T n p))) := (f.le LCp_c).u (Or.inr (Or.inl rfl))
    refine sp_readNumC hA1 (fun e B z g b => ?_) (fun x q B z g hB b => ?_)
    · rw [z] at hE
      rw [u2_s, i3_0le (by omega) (by omega)]
      refine ⟨fun y => by omega, fun _ => hE e _ rfl ((fA1.tr (g.le LCp_c)).u (Or.inr (Or.inr (Or.inl rfl)))) (by omega) ?_⟩
      exact ((hA1.1.f g (fun k => by unfold LCp; omega)).f (L := fun o _ => o = 39) (FI.rf.u rfl) (fun k => by omega))
    · rw [z] at hE hK
      dsimp only at hE hK
      rw [u2_s, i3_0le (by omega) (by omega)]
      refine ⟨fun _ => ?_, fun y => by omega⟩
      have b38 : B 38 c = i3 (kd T n p) := by rw [g 38 c (by unfold LCp; omega), u2_s]
      have hB1 : CP T n q (gj_u2 B 39 c (i3 x)) := hB.uo (by decide)
      have fB1 : FI LCc SI (gj_u2 B 39 c (i3 x)) := (fA1.tr (g.le LCp_c)).u (Or.inr (Or.inr (Or.inl rfl)))
      -- what was read before stands
      have old : ∀ (C : gj_I), FI (fun o k => LCp o k ∨ ((o = 38 ∨ o = 39 ∨ o = 40) ∧ k = c)) SI C → ∀ (v : V3), C 38 c = i3 v.1 → C 39 c = i3 v.2.1 → C 40 c = i3 v.2.2 → OC (tu t c v) (c + 1) C := by
        intro C fC v v1 v2 v3 j hj
        by_cases e : j = c
        · subst e; rw [tu_s]; exact ⟨v1, v2, v3⟩
        · rw [tu_n e, fC 38 j (by unfold LCp; omega), fC 39 j (by unfold LCp; omega), fC 40 j (by unfold LCp; omega)]
          exact hO j (by omega)
      have cp : ∀ {X Y : gj_I}, FI LCp X Y → FI (fun o k => LCp o k ∨ ((o = 38 ∨ o = 39 ∨ o = 40) ∧ k = c)) X Y := fun z => z.le (fun o k y => Or.inl y)
      have gB1 : FI (fun o k => LCp o k ∨ ((o = 38 ∨ o = 39 ∨ o = 40) ∧ k = c)) SI (gj_u2 B 39 c (i3 x)) := ((((cp f).u (Or.inr ⟨Or.inl rfl, rfl⟩)).tr (cp g)).u (Or.inr ⟨Or.inr (Or.inl rfl), rfl⟩))
      rw [b38, i3_eq (by omega) (by omega) (by omega) (by omega)]
      refine ⟨fun k2 => ?_, fun k2 => ?_⟩
      · rw [if_neg k2] at hE hK
        refine sp_readNumC hB1 (fun e D z2 g2 b2 => ?_) (fun y r D z2 g2 hD b2 => ?_)
        · rw [z2] at hE
          rw [u2_s, i3_ifmin (by omega) (by omega) (by omega) (by omega)]
          have e0 : (if e < 0 then e else 0) = e := if_pos b2.2
          rw [e0]
          refine hE e _ rfl ((fB1.tr (g2.le LCp_c)).u (Or.inr (Or.inr (Or.inr rfl)))) (by omega) ?_
          exact ((hB1.1.f g2 (fun k => by unfold LCp; omega)).f (L := fun o _ => o = 40) (FI.rf.u rfl) (fun k => by omega))
        · rw [z2] at hK
          rw [u2_s, i3_ifmin (by omega) (by omega) (by omega) (by omega)]
          have e0 : (if y < 0 then y else 0) = 0 := if_neg (by omega)
          rw [e0]
          refine hK _ r _ rfl ((fB1.tr (g2.le LCp_c)).u (Or.inr (Or.inr (Or.inr rfl)))) (hD.uo (by decide)) ?_ ⟨by dsimp only; omega, by dsimp only; omega, by dsimp only; omega, by dsimp only; omega⟩
          refine old _ ((gB1.tr (cp g2)).u (Or.inr ⟨Or.inr (Or.inr rfl), rfl⟩)) _ ?_ ?_ ?_
          · rw [u2_n (by omega), g2 38 c (by unfold LCp; omega), u2_n (by omega)]; exact b38
          · rw [u2_n (by omega), g2 39 c (by unfold LCp; omega), u2_s]
          · rw [u2_s]
      · rw [if_pos k2] at hE hK
        rw [u2_s, i3_ifmin (by omega) (by omega) (by omega) (by omega)]
        have e0 : (if (0 : Int) < 0 then (0 : Int) else 0) = 0 := if_neg (by decide)
        rw [e0]
        refine hK _ q _ rfl (fB1.u (Or.inr (Or.inr (Or.inr rfl)))) (hB1.uo (by decide)) ?_ ⟨by dsimp only; omega, by dsimp only; omega, by dsimp only; omega, by dsimp only; omega⟩
        refine old _ (gB1.u (Or.inr ⟨Or.inr (Or.inr rfl), rfl⟩)) _ ?_ ?_ ?_
        · rw [u2_n (by omega), u2_n (by omega), b38, k2]
        · rw [u2_n (by omega), u2_s]
        · rw [u2_s]
  · rw [if_pos k1] at hE
    rw [u2_s, i3_0le (by omega) (by omega)]
    refine ⟨fun z => by omega, fun _ => ?_⟩
    have hP1 : CP T n p (gj_u2 SI 38 c (i3 (-1))) := hP.uo (by decide)
    exact sp_faultC hP1.2.2.2.2 1 rfl (hE _ _ rfl (FI.rf.u (Or.inr (Or.inl rfl))) (by omega) hP1.1)
theorem sp_readO {Q : Int32 → gj_I → gj_J → Prop} (hP : CP T n 0 SI) (hE : ∀ e SI', rd (clsP T n) T n 12 = .inl e → FI LCr SI SI' → (-5000 ≤ e ∧ e < 0) → CT T SI' → Q (i3 e) SI' SJ) (hK : ∀ c t SI', rd (clsP T n) T n 12 = .inr (c, t) → FI LCr SI SI' → CT T SI' → c ≤ 12 → SI' 37 3 = i3 c → OC t c SI' → (∀ j, j < c → Ob (t j)) → Q (i3 0) SI' SJ) : DoI E 23 [(.ref 37), (.ref 1)] SI SJ Q := by
  have hn := hP.2.1
  rw [rd_C] at hE hK
  refine st_23 SI SJ ?_
  have loop : ∀ (f c p : Nat) (t : Nat → V3) (A : gj_I), c + f = 12 → rdC (clsP T n) T n f c p t = rdC (clsP T n) T n 12 0 0 (fun _ => (0, 0, 0)) → FI LCr SI A → CP T n p A → OC t c A → (∀ j, j < c → Ob (t j)) → GoI E mt_23 7 [some (.ref 37), some (.ref 1), some (.int (i3 (c : Nat))), none] A SJ Q := by
    intro f
    induction f with
    | zero =>
      intro c p t A hc e fA hA hO hb
      have pn := hA.2.2.1
      have c12 : c = 12 := by omega
      subst c12
      have e2 : clsP T n 12 p = .inl (-4000 - p) := if_pos rfl
      rw [rdC_l e2] at e
      refine lp_23_7 _ A SJ ⟨fun _ => sp_faultC hA.2.2.2.2 4 rfl (hE _ A e.symm fA (by omega) hA.1), fun q => absurd (by decide) q⟩
    | succ f ih =>
      intro c p t A hc e fA hA hO hb
      have pn := hA.2.2.1
      refine lp_23_7 _ A SJ ⟨fun q => ?_, fun _ => sp_clauseC hA (by omega) hO rfl (fun e1 B z g b hB => ?_) (fun v q B z g hB hO2 hv => ?_)⟩
      · rw [i3_le (by omega) (by omega) (by omega) (by omega)] at q; omega
      · rw [rdC_l z] at e
        rw [i3_0le (by omega) (by omega)]
        exact ⟨fun y => by omega, fun _ => hE e1 B e.symm (fA.tr (g.le (fun o k y => Or.inl y))) b hB⟩
      · rw [rdC_r z] at e
        have qn := hB.2.2.1
        refine ⟨fun _ => ?_, fun y => absurd (by decide) y⟩
        rw [i3_add]
        have fB1 : FI LCr SI (gj_u2 B 37 3 (i3 ((c : Int) + 1))) := (fA.tr (g.le (fun o k y => Or.inl y))).u (Or.inr ⟨rfl, rfl⟩)
        have hB1 : CP T n q (gj_u2 B 37 3 (i3 ((c : Int) + 1))) := hB.uo (by decide)
        have hO3 : OC (tu t c v) (c + 1) (gj_u2 B 37 3 (i3 ((c : Int) + 1))) := fun j hj => by rw [u2_n (by omega), u2_n (by omega), u2_n (by omega)]; exact hO2 j hj
        have h37 : (gj_u2 B 37 3 (i3 ((c : Int) + 1))) 37 3 = i3 ((c + 1 : Nat) : Int) := by rw [u2_s]; rfl
        have hb2 : ∀ j, j < c + 1 → Ob (tu t c v j) := fun j hj => by
          by_cases e : j = c
          · subst e; rw [tu_s]; exact hv
          · rw [tu_n e]; exact hb j (by omega)
        generalize gj_u2 B 37 3 (i3 ((c : Int) + 1)) = B1 at *
        refine sp_ended hB1 ⟨fun y => ?_, fun y => ?_⟩
        · rw [ib_0] at y
          refine sp_accept hB1 59 (by decide) rfl (fun w C gC hC => ⟨fun _ => ?_, fun z => absurd z (by decide)⟩) (fun w => ⟨fun z => absurd rfl z, fun _ => ?_⟩)
          · rw [rdT_g (by omega) w] at e
            exact ih (c + 1) (q + 1) (tu t c v) C (by omega) e (fB1.tr (gC.le (fun o k y => Or.inl (Or.inl y)))) hC (fun j hj => by rw [gC 38 j (by unfold LCp; omega), gC 39 j (by unfold LCp; omega), gC 40 j (by unfold LCp; omega)]; exact hO3 j hj) hb2
          · rw [rdT_b (by omega) w] at e
            exact sp_faultC hB1.2.2.2.2 1 rfl (hE _ B1 e.symm fB1 (by omega) hB1.1)
        · rw [ib_0, Decidable.not_not] at y
          rw [rdT_e y] at e
          exact hK (c + 1) _ B1 e.symm fB1 hB1.1 (by omega) h37 hO3 hb2
  refine loop 12 0 0 (fun _ => (0, 0, 0)) _ (by omega) rfl (FI.rf.u (Or.inr ⟨rfl, rfl⟩)) (hP.uo (by decide)) (fun j hj => absurd hj (Nat.not_lt_zero j)) (fun j hj => absurd hj (Nat.not_lt_zero j))
end ClauseC
