/-! ah: loads of the class -/
def LDc (t : Nat → V3) (c : Nat) (SI : gj_I) : Prop := ∀ j, j < c → SI 41 (3 * j) = i3 (t j).1 ∧ SI 41 (3 * j + 1) = i3 (t j).2.1 ∧ SI 41 (3 * j + 2) = i3 (t j).2.2
def LCl (o k : Nat) : Prop := (o = 1 ∧ k = 2) ∨ o = 41
def LTX (o k : Nat) : Prop := LCT o k ∨ LCI o k ∨ (29 ≤ o ∧ o ≤ 41)
theorem LCp_l : ∀ o k, LCp o k → LCl o k := fun o k h => Or.inl h
section LoadsC
variable {E : gj_E} {SI : gj_I} {SJ : gj_J} {F : Nat → Int} {T : Nat → Int} {n p c : Nat} {t : Nat → V3}
theorem nms_e {e : Int} (hn : n ≤ 240) (hp : p ≤ n) (h : nms T n 3 p = .inl e) : -3000 ≤ e ∧ e < 0 := by
  unfold nms at h
  split at h
  · next z =>
    have lt := hr_lt (show 0 ≤ hr T n p by omega)
    cases hm : nm T n 3 (p + 1) with
    | inl e2 =>
      rw [hm] at h
      injection h with h
      subst h
      exact nm_eb hn (by omega) (by decide) hm
    | inr w => rw [hm] at h; cases h
  · exact nm_eb hn hp (by decide) h
theorem sg_core {Q : Int32 → gj_I → gj_J → Prop} {G : Int32 → gj_I → gj_J → Prop} (hP : CP T n p SI) (hE : ∀ e SI', nms T n 3 p = .inl e → FI LCp SI SI' → (-3000 ≤ e ∧ e < 0) → CT T SI' → Q (i3 e) SI' SJ) (hK : ∀ v q SI', nms T n 3 p = .inr (v, q) → FI LCp SI SI' → CP T n q SI' → v.natAbs ≤ 999 → G (i3 v) SI' SJ) : DoI E 75 [(.ref 1), (.int (i3 45))] SI SJ (fun r1 SI2 SJ2 => DoI E 77 [(.ref 1), (.int (i3 3))] SI2 SJ2 (fun r3 SI4 SJ4 => (0 ≤ r3 → (r1 = 0 → G r3 SI4 SJ4) ∧ (¬ r1 = 0 → G (-r3) SI4 SJ4)) ∧ (¬ 0 ≤ r3 → Q r3 SI4 SJ4))) := by
  have ct : ∀ {A B : gj_I}, CT T A → FI LCp A B → CT T B := fun h f => h.f f (fun k => by unfold LCp; omega)
  refine sp_accept hP 45 (by decide) rfl (fun w A f hA => ?_) (fun w => ?_)
  · refine sp_numberC hA 3 (by decide) rfl (fun e B z g b => ?_) (fun v q B z g hB b => ?_)
    · rw [i3_0le (by omega) (by omega)]
      refine ⟨fun y => by omega, fun _ => hE e B ?_ (f.tr g) b (ct hA.1 g)⟩
      unfold nms; rw [if_pos w, z]
    · rw [i3_0le (by omega) (by omega)]
      refine ⟨fun _ => ⟨fun y => absurd y (by decide), fun _ => ?_⟩, fun y => by omega⟩
      rw [i3_neg]
      refine hK (-v) q B ?_ (f.tr g) hB (by omega)
      unfold nms; rw [if_pos w, z]
  · refine sp_numberC hP 3 (by decide) rfl (fun e B z g b => ?_) (fun v q B z g hB b => ?_)
    · rw [i3_0le (by omega) (by omega)]
      refine ⟨fun y => by omega, fun _ => hE e B ?_ g b (ct hP.1 g)⟩
      unfold nms; rw [if_neg w]; exact z
    · rw [i3_0le (by omega) (by omega)]
      refine ⟨fun _ => ⟨fun _ => ?_, fun y => absurd rfl y⟩, fun y => by omega⟩
      refine hK v q B ?_ g hB (by omega)
      unfold nms; rw [if_neg w]; exact z
theorem sp_loadC1 {Q : Int32 → gj_I → gj_J → Prop} {a : Int32} (hP : CP T n p SI) (hc : c < 6) (hO : LDc t c SI) (ha : a = i3 (3 * (c : Int))) (hE : ∀ e SI', ldP T n c p = .inl e → FI LCl SI SI' → (-5000 ≤ e ∧ e < 0) → CT T SI' → Q (i3 e) SI' SJ) (hK : ∀ v q SI', ldP T n c p = .inr (v, q) → FI LCl SI SI' → CP T n q SI' → LDc (tu t c v) (c + 1) SI' → Lb v → Q (i3 0) SI' SJ) : DoI E 97 [(.ref 0), (.int a)] SI SJ Q := by
  subst ha
  have hn := hP.2.1
  unfold ldP at hE hK
  rw [if_neg (by omega)] at hE hK
  have cp : ∀ {X Y : gj_I}, FI LCp X Y → FI (fun o k => LCp o k ∨ (o = 41 ∧ 3 * c ≤ k ∧ k ≤ 3 * c + 2)) X Y := fun z => z.le (fun o k y => Or.inl y)
  have cl : ∀ {X Y : gj_I}, FI (fun o k => LCp o k ∨ (o = 41 ∧ 3 * c ≤ k ∧ k ≤ 3 * c + 2)) X Y → FI LCl X Y := fun z => z.le (fun o k y => Or.elim y Or.inl (fun y => Or.inr y.1))
  refine st_97 _ SI SJ ?_
  refine lp_97_2 _ _ SI SJ ⟨fun q => absurd q (by decide), fun _ => ⟨fun _ => ?_, fun q => absurd (by decide) q⟩⟩
  refine sg_core (G := fun x A B => vp_in (i3 (3 * (c : Int)) + i3 0) 18 ∧ GoI E mt_97 2 [some (.ref 0), some (.int (i3 (3 * (c : Int)))), some (.int (i3 0 + i3 1)), none, none] (gj_u2 A 41 (gj_n (i3 (3 * (c : Int)) + i3 0)) x) B Q) hP (fun e A z f b hA => ?_) (fun x q A z f hA b => ?_)
  · rw [z] at hE; exact hE e A rfl (f.le LCp_l) (by omega) hA
  rw [z] at hE hK
  dsimp only at hE hK
  rw [i3_add, i3_in (by omega) (by omega), i3_n (by omega) (by omega), show (3 * (c : Int) + 0).toNat = 3 * c by omega]
  refine ⟨by omega, ?_⟩
  have fA := (cp f).u (x := i3 x) (show LCp 41 (3 * c) ∨ (41 = 41 ∧ 3 * c ≤ 3 * c ∧ 3 * c ≤ 3 * c + 2) from Or.inr ⟨rfl, by omega, by omega⟩)
  have hA1 : CP T n q (gj_u2 A 41 (3 * c) (i3 x)) := hA.uo (by decide)
  have v1 : (gj_u2 A 41 (3 * c) (i3 x)) 41 (3 * c) = i3 x := u2_s
  generalize gj_u2 A 41 (3 * c) (i3 x) = A1 at *
  have two : ∀ (i : Nat) (q : Nat) (A1 : gj_I), (i = 1 ∨ i = 2) → FI (fun o k => LCp o k ∨ (o = 41 ∧ 3 * c ≤ k ∧ k ≤ 3 * c + 2)) SI A1 → CP T n q A1 → (∀ e B, cm T n q = .inl e → FI LCl SI B → (-5000 ≤ e ∧ e < 0) → CT T B → Q (i3 e) B SJ) → (∀ v r B, cm T n q = .inr (v, r) → FI (fun o k => LCp o k ∨ (o = 41 ∧ 3 * c ≤ k ∧ k ≤ 3 * c + 2)) SI B → FI (fun o k => LCp o k ∨ (o = 41 ∧ k = 3 * c + i)) A1 B → CP T n r B → v.natAbs ≤ 999 → B 41 (3 * c + i) = i3 v → GoI E mt_97 2 [some (.ref 0), some (.int (i3 (3 * (c : Int)))), some (.int (i3 ((i : Int) + 1))), none, none] B SJ Q) → GoI E mt_97 2 [some (.ref 0), some (.int (i3 (3 * (c : Int)))), some (.int (i3 (i : Int))), none, none] A1 SJ Q := by
    intro i q A1 hi f1 hA1 hE2 hK2
    have hq := hA1.2.2.1
    unfold cm at hE2 hK2
    refine lp_97_2 _ _ A1 SJ ⟨fun z => ?_, fun _ => ⟨fun z => ?_, fun _ => ?_⟩⟩
    · rw [i3_le (by omega) (by omega) (by omega) (by omega)] at z; omega
    · rw [i3_le0 (by omega) (by omega)] at z; omega
    · refine sp_accept hA1 44 (by decide) rfl (fun w B g hB => ⟨fun _ => ?_, fun z => absurd z (by decide)⟩) (fun w => ⟨fun z => absurd rfl z, fun _ => ?_⟩)
      · rw [if_pos w] at hE2 hK2
        refine sg_core (G := fun x A B => vp_in (i3 (3 * (c : Int)) + i3 (i : Int)) 18 ∧ GoI E mt_97 2 [some (.ref 0), some (.int (i3 (3 * (c : Int)))), some (.int (i3 (i : Int) + i3 1)), none, none] (gj_u2 A 41 (gj_n (i3 (3 * (c : Int)) + i3 (i : Int))) x) B Q) hB (fun e C z g2 b hC => ?_) (fun x r C z g2 hC b => ?_)
        · exact hE2 e C z (cl ((f1.tr (cp g)).tr (cp g2))) (by omega) hC
        · rw [i3_add, i3_add, i3_in (by omega) (by omega), i3_n (by omega) (by omega), show (3 * (c : Int) + (i : Int)).toNat = 3 * c + i by omega]
          refine ⟨by omega, hK2 x r _ z (((f1.tr (cp g)).tr (cp g2)).u (Or.inr ⟨rfl, by omega, by omega⟩)) ?_ (hC.uo (by decide)) b u2_s⟩
          exact (((g.le (fun o k y => Or.inl y)).tr (g2.le (fun o k y => Or.inl y)) : FI (fun o k => LCp o k ∨ (o = 41 ∧ k = 3 * c + i)) A1 C).u (Or.inr ⟨rfl, rfl⟩))
      · rw [if_neg w] at hE2
        exact sp_faultC hA1.2.2.2.2 1 rfl (hE2 _ A1 rfl (cl f1) (by omega) hA1.1)
  rw [i3_add]
  refine two 1 q A1 (Or.inl rfl) fA hA1 (fun e B z g b hB => ?_) (fun y r B z g g2 hB b2 v2 => ?_)
  · rw [z] at hE; exact hE e B rfl g b hB
  rw [z] at hE hK
  dsimp only at hE hK
  refine two 2 r B (Or.inr rfl) g hB (fun e C z g b hC => ?_) (fun w s C z3 g3 g4 hC b3 v3 => ?_)
  · rw [z] at hE; exact hE e C rfl g b hC
  rw [z3] at hK
  dsimp only at hK
  refine lp_97_2 _ _ C SJ ⟨fun _ => hK (x, y, w) s C rfl (cl g3) hC (fun j hj => ?_) ⟨b, b2, b3⟩, fun q => absurd (by decide) q⟩
  by_cases e : j = c
  · subst e
    rw [tu_s]
    refine ⟨?_, ?_, v3⟩
    · rw [g4 41 (3 * j) (by unfold LCp; omega), g2 41 (3 * j) (by unfold LCp; omega)]; exact v1
    · rw [g4 41 (3 * j + 1) (by unfold LCp; omega)]; exact v2
  · rw [tu_n e, g3 41 _ (by unfold LCp; omega), g3 41 _ (by unfold LCp; omega), g3 41 _ (by unfold LCp; omega)]
    exact hO j (by omega)
theorem sp_readL {Q : Int32 → gj_I → gj_J → Prop} (hP : CP T n 0 SI) (hE : ∀ e SI', rd (ldP T n) T n 6 = .inl e → FI LCl SI SI' → (-5000 ≤ e ∧ e < 0) → CT T SI' → Q (i3 e) SI' SJ) (hK : ∀ c t SI', rd (ldP T n) T n 6 = .inr (c, t) → FI LCl SI SI' → CT T SI' → c ≤ 6 → LDc t c SI' → (∀ j, j < c → Lb (t j)) → Q (i3 (c : Nat)) SI' SJ) : DoI E 96 [(.ref 0)] SI SJ Q := by
  have hn := hP.2.1
  rw [rd_C] at hE hK
  refine st_96 SI SJ ?_
  have loop : ∀ (f c p : Nat) (t : Nat → V3) (A : gj_I), c + f = 6 → rdC (ldP T n) T n f c p t = rdC (ldP T n) T n 6 0 0 (fun _ => (0, 0, 0)) → FI LCl SI A → CP T n p A → LDc t c A → (∀ j, j < c → Lb (t j)) → GoI E mt_96 2 [some (.ref 0), some (.int (i3 (c : Nat))), none] A SJ Q := by
    intro f
    induction f with
    | zero =>
      intro c p t A hc e fA hA hO hb
      have pn := hA.2.2.1
      have c12 : c = 6 := by omega
      subst c12
      have e2 : ldP T n 6 p = .inl (-4000 - p) := if_pos rfl
      rw [rdC_l e2] at e
      refine lp_96_2 _ A SJ ⟨fun _ => sp_faultC hA.2.2.2.2 4 rfl (hE _ A e.symm fA (by omega) hA.1), fun q => absurd (by decide) q⟩
    | succ f ih =>
      intro c p t A hc e fA hA hO hb
      have pn := hA.2.2.1
      refine lp_96_2 _ A SJ ⟨fun q => ?_, fun _ => sp_loadC1 hA (by omega) hO (by rw [i3_mul]) (fun e1 B z g b hB => ?_) (fun v q B z g hB hO2 hv => ?_)⟩
      · rw [i3_le (by omega) (by omega) (by omega) (by omega)] at q; omega
      · rw [rdC_l z] at e
        rw [i3_0le (by omega) (by omega)]
        exact ⟨fun y => by omega, fun _ => hE e1 B e.symm (fA.tr g) b hB⟩
      · rw [rdC_r z] at e
        have qn := hB.2.2.1
        refine ⟨fun _ => ?_, fun y => absurd (by decide) y⟩
        rw [i3_add]
        have hb2 : ∀ j, j < c + 1 → Lb (tu t c v j) := fun j hj => by
          by_cases e : j = c
          · subst e; rw [tu_s]; exact hv
          · rw [tu_n e]; exact hb j (by omega)
        refine sp_ended hB ⟨fun y => ?_, fun y => ?_⟩
        · rw [ib_0] at y
          refine sp_accept hB 59 (by decide) rfl (fun w C gC hC => ⟨fun _ => ?_, fun z => absurd z (by decide)⟩) (fun w => ⟨fun z => absurd rfl z, fun _ => ?_⟩)
          · rw [rdT_g (by omega) w] at e
            exact ih (c + 1) (q + 1) (tu t c v) C (by omega) e ((fA.tr g).tr (gC.le LCp_l)) hC (fun j hj => by rw [gC 41 _ (by unfold LCp; omega), gC 41 _ (by unfold LCp; omega), gC 41 _ (by unfold LCp; omega)]; exact hO2 j hj) hb2
          · rw [rdT_b (by omega) w] at e
            exact sp_faultC hB.2.2.2.2 1 rfl (hE _ B e.symm (fA.tr g) (by omega) hB.1)
        · rw [ib_0, Decidable.not_not] at y
          rw [rdT_e y] at e
          exact hK (c + 1) _ B e.symm (fA.tr g) hB.1 (by omega) hO2 hb2
  exact loop 6 0 0 (fun _ => (0, 0, 0)) _ (by omega) rfl FI.rf hP (fun j hj => absurd hj (Nat.not_lt_zero j)) (fun j hj => absurd hj (Nat.not_lt_zero j))
theorem sp_loadsC {Q : Int32 → gj_I → gj_J → Prop} {a : Int32} (hC : CNT F SI SJ) (hF : WF F) (tp : Int) (hT : CTp T tp SI) (x : Int) (xr : -2147483648 ≤ x ∧ x < 2147483648) (ha : a = i3 x) (h : ∀ SI', FI LTX SI SI' → CTp T (tpR tp x 60) SI' → CNT (loadsR T F tp x).2 SI' SJ → Q (i3 (loadsR T F tp x).1) SI' SJ) : DoI E 95 [(.ref 0), (.int a)] SI SJ Q := by
  subst ha
  have hT0 := hT
  obtain ⟨hT, ht, t1, t2⟩ := hT
  unfold loadsR tpR at h
  refine st_95 _ SI SJ (sp_offersC tp x 1 60 xr (by decide) (by decide) ht ⟨t1, t2⟩ rfl rfl rfl ⟨fun q => ?_, fun q => ?_⟩)
  · rw [ib_0, Decidable.not_not] at q
    rw [if_pos q, if_pos q] at h
    refine sp_open tp x hT ht ⟨t1, t2⟩ (by omega) rfl (fun A fA hA => ?_)
    have fA2 : FI LTX SI A := fA.le (fun o k z => by unfold LTX LCT; omega)
    have lx : ∀ {X Y : gj_I}, FI LCl X Y → FI LTX X Y := fun z => z.le (fun o k y => by unfold LCl at y; unfold LTX LCT LCI; omega)
    have wx : ∀ {X Y : gj_I}, FI (fun o k => o = 1 ∧ (k = 1 ∨ k = 2 ∨ k = 3)) X Y → FI LTX X Y := fun z => z.le (fun o k y => by unfold LTX LCT; omega)
    have low : ∀ {B C : gj_I}, FI LCl A B → FI (fun o k => o = 1 ∧ (k = 1 ∨ k = 2 ∨ k = 3)) B C → FI (fun o _k => o = 1 ∨ o = 41) SI C := fun z y => ((fA.le (fun o k w => Or.inl w.1)).tr (z.le (fun o k w => by unfold LCl at w; omega))).tr (y.le (fun o k w => Or.inl w.1))
    refine sp_readL hA (fun e B z g b hB => ?_) (fun c t B z g hB c6 hD hb => ?_)
    · rw [z] at h
      refine sp_wipe hB (fun C gC hC2 => ?_)
      rw [i3_0le (by omega) (by omega)]
      refine ⟨fun y => by omega, fun _ => h C ((fA2.tr (lx g)).tr (wx gC)) hC2 (hC.same (low g gC) (fun o k z => by omega))⟩
    · rw [z] at h
      refine sp_wipe hB (fun C gC hC2 => ?_)
      have f1 := low g gC
      have hC3 := hC.same f1 (fun o k z => by omega)
      have hD2 : LDc t c C := fun j hj => by rw [gC 41 _ (by omega), gC 41 _ (by omega), gC 41 _ (by omega)]; exact hD j hj
      obtain ⟨⟨hX, hD4, hf, hh, hx⟩, hg, ht4⟩ := hC3
      obtain ⟨h1, h2, h3, h4, h5, h6⟩ := hF
      rw [i3_0le (by omega) (by omega), i3_mul, i3_lt0 (by omega) (by omega), i3_n (by omega) (by omega)]
      refine ⟨fun _ => ⟨by omega, by omega, ?_⟩, fun y => by omega⟩
      have e3 : (3 * (c : Int)).toNat = 3 * c := by omega
      rw [e3]
      have f0 : FI (fun o k => o = 15 ∨ (o = 3 ∧ k = 12)) C (gj_u2 (gj_ua C 15 (va_cpy (C 41) (C 15) 0 0 (3 * c))) 3 12 (i3 (c : Nat))) := (FI.rf.ua (fun k => Or.inl rfl)).u (Or.inr ⟨rfl, rfl⟩)
      have ag : Ag F (ldF F c (3 * c) t) := fun k hk => by unfold ldF; rw [if_neg (by omega), if_neg (by omega)]
      have hi : ∀ k, 35 ≤ k → k < 116 → ldF F c (3 * c) t k = F k := fun k k1 k2 => by unfold ldF; rw [if_neg (by omega), if_neg (by omega)]
      have e116 : ldF F c (3 * c) t 116 = c := if_pos rfl
      refine h _ (((fA2.tr (lx g)).tr (wx gC)).tr (f0.le (fun o k z => by unfold LTX LCT LCI; omega))) ?_ ⟨⟨(hX.f f0 ⟨by omega, fun k => by omega⟩).ap ag.ap h1.1, (hD4.f f0 ⟨by omega, fun k => by omega⟩).ap ag.ap h1.1, (hf.f f0 ⟨by omega, fun k => by omega⟩).c (fun k _ hk => ag k hk) h3.2.1, (hh.f f0 ⟨by omega, fun k => by omega⟩).c hi ⟨h5.1, h5.2.1⟩, ?_⟩, (hg.same f0 ⟨by omega, fun k => by omega⟩).ag ag h1.1 h3, (ht4.same f0 (fun k => by omega)).ag ag h1.1 h3⟩
      · obtain ⟨c1, c2, c3, c4⟩ := hC2
        exact ⟨c1.f f0 (fun k => by omega), by rw [f0 1 1 (by omega)]; exact c2, c3, c4⟩
      · obtain ⟨x1, x2, x3⟩ := hx
        refine ⟨?_, ?_, fun k hk => ?_⟩
        · rw [u2_n (by omega), ua_n (by omega)]
          rw [x1]
          refine i3_c ?_
          show F 34 = ldF F c (3 * c) t 34
          unfold ldF; rw [if_neg (by omega), if_neg (by omega)]
        · rw [u2_s]; exact i3_c e116.symm
        · have hk2 : (k : Int) < 3 * (c : Int) := by have hk3 : (k : Int) < 3 * ldF F c (3 * c) t 116 := hk; rw [e116] at hk3; exact hk3
          rw [u2_n (by omega), ua_s]
          unfold va_cpy
          rw [if_pos (by omega), show 0 + (k - 0) = k by omega]
          have el : ldF F c (3 * c) t (117 + k) = l3 t k := by
            unfold ldF; rw [if_neg (by omega), if_pos (by omega), show 117 + k - 117 = k by omega]
          show C 41 k = i3 (ldF F c (3 * c) t (117 + k))
          rw [el]
          obtain ⟨y1, y2, y3⟩ := hD2 (k / 3) (by omega)
          unfold l3
          by_cases m0 : k % 3 = 0
          · rw [if_pos m0, ← y1, show 3 * (k / 3) = k by omega]
          · rw [if_neg m0]
            by_cases m1 : k % 3 = 1
            · rw [if_pos m1, ← y2, show 3 * (k / 3) + 1 = k by omega]
            · rw [if_neg m1, ← y3, show 3 * (k / 3) + 2 = k by omega]
  · rw [ib_0] at q
    rw [if_neg q, if_neg q] at h
    exact h SI FI.rf hT0 hC
end LoadsC
