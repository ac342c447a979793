/-! 69: the reference's storm, load -/
def nxS (s : Int) : Int := (25173 * s + 13849) % 65536
theorem nxS_b (s : Int) : 0 ≤ nxS s ∧ nxS s ≤ 65535 := by unfold nxS; omega
noncomputable def stS (F : Nat → Int) (m : Int) (_i : Nat) (a : Int × Int) : Int × Int := (nxS (nxS (nxS a.1)), ic (wiB (hdF F (nxS a.1 % 21 - 10, nxS (nxS a.1) % 21 - 10, nxS (nxS (nxS a.1)) % 101 - 50)) m) (a.2 + 1) a.2)
noncomputable def stormA (F : Nat → Int) (n m : Int) : Int := if (1 ≤ n ∧ n ≤ 60) ∧ 0 ≤ m ∧ m ≤ 10000 then (forN (stS F m) 0 n.toNat (F 34, 0)).2 else -1
section Storm
variable {E : gj_E} {SI : gj_I} {SJ : gj_J} {F : Nat → Int}
theorem sp_drawn {Q : Int32 → gj_I → gj_J → Prop} {a1 : Int32} (s n : Int) (hs : 0 ≤ s ∧ s ≤ 65535) (h34 : SI 82 34 = i3 s) (hn : 1 ≤ n ∧ n ≤ 1000) (e1 : a1 = i3 n) (h : Q (i3 (nxS s % n)) (gj_u2 SI 82 34 (i3 (nxS s))) SJ) : DoI E 236 [(.ref 81), (.int a1)] SI SJ Q := by
  subst e1
  refine st_236 _ SI SJ ?_
  rw [h34, i3_mul, i3_add]
  obtain ⟨x, hx⟩ : ∃ x : Nat, 25173 * s + 13849 = x := ⟨(25173 * s + 13849).toNat, by omega⟩
  obtain ⟨k, hk⟩ : ∃ k : Nat, n = k := ⟨n.toNat, by omega⟩
  subst hk
  have e1 : i3 (x : Int) - i3 (x : Int) / i3 65536 * i3 65536 = i3 ((x % 65536 : Nat) : Int) := i3_remN (a := x) (b := 65536) (by omega) (by omega) (by omega)
  have e2 : nxS s = ((x % 65536 : Nat) : Int) := by unfold nxS; rw [hx]; omega
  rw [hx, e1, i3_remN (a := x % 65536) (b := k) (by omega) (by omega) (by omega)]
  rw [e2] at h
  refine ⟨by rw [i3_eq0 (by omega) (by omega)]; omega, ?_⟩
  rw [Int.natCast_emod (x % 65536) k]; exact h
theorem sp_isWithin {Q : Int32 → gj_I → gj_J → Prop} {a1 : Int32} (c : Cd) (hc : WC c) (m : Int) (hm : 0 ≤ m ∧ m ≤ 10000) (hb : RB (some c) SI SJ) (e1 : a1 = i3 m) (h : Q (ibc (wiB (some c) m)) SI SJ) : DoI E 232 [(.ref 81), (.int a1)] SI SJ Q := by
  subst e1
  obtain ⟨d0, d1, d2, d3⟩ := hb
  have sb := sumC_b hc
  obtain ⟨v1, v2, v3, v4⟩ := hc
  have lp := lo_pos (u := sumC c) v2
  have m2 := mul_b (a := m) (b := loy (sumC c) c.2.2.2) (m := 10000) (n := 30000000) (by omega) (by omega)
  refine st_232 _ SI SJ ?_
  rw [d1, d2, i3_64 (by omega) (by omega), i6_mul, gt_iff_lt, i6_lt (by omega) (by omega) (by omega) (by omega)]
  refine ⟨fun z => ?_, fun z => ?_⟩
  · rw [ibc_f (fun y : wiB (some c) m => by unfold wiB at y; dsimp only at y; omega)] at h; exact h
  · rw [ibc_t (p := wiB (some c) m) (by unfold wiB; dsimp only; omega)] at h; exact h
def LIs (o k : Nat) : Prop := LRI o k ∨ (o = 82 ∧ k = 34)
theorem sp_storm {Q : Int32 → gj_I → gj_J → Prop} {a1 a2 : Int32} (hR : RF F SI) (hW : Wp F) (hT : Wt F) (hN : Wn F) (h34 : 0 ≤ F 34 ∧ F 34 ≤ 65535) (n m : Int) (nr : -2147483648 ≤ n ∧ n < 2147483648) (mr : -2147483648 ≤ m ∧ m < 2147483648) (e1 : a1 = i3 n) (e2 : a2 = i3 m) (h : ∀ SI' SJ', FI LRI SI SI' → FJ LRJ SJ SJ' → Q (i3 (stormA F n m)) SI' SJ') : DoI E 237 [(.ref 81), (.int a1), (.int a2)] SI SJ Q := by
  subst e1; subst e2
  have bad : ¬ ((1 ≤ n ∧ n ≤ 60) ∧ 0 ≤ m ∧ m ≤ 10000) → Q (i3 (-1)) SI SJ := by
    intro z
    have e : stormA F n m = -1 := if_neg z
    have hh := h SI SJ FI.rf FJ.rf
    rw [e] at hh; exact hh
  refine st_237 _ _ SI SJ ?_
  rw [i3_64 (by omega) (by omega), i3_64 (by omega) (by omega)]
  refine sp_in (by omega) (by omega) (by omega) (by omega) (by omega) (by omega) ⟨fun z => ?_, fun z => sp_in (by omega) (by omega) (by omega) (by omega) (by omega) (by omega) ⟨fun z2 => ?_, fun z2 => ?_⟩⟩
  · rw [ib_0] at z; exact bad (fun c => z c.1)
  · rw [ib_0, Decidable.not_not] at z z2
    have e : stormA F n m = (forN (stS F m) 0 n.toNat (F 34, 0)).2 := if_pos ⟨z, z2⟩
    rw [e] at h
    obtain ⟨k, hk⟩ : ∃ k : Nat, n = k := ⟨n.toNat, by omega⟩
    subst hk
    rw [show ((k : Nat) : Int).toNat = k by omega] at h
    refine sp_lays hR hW hT hN (fun A0 B0 f1 f2 hL0 => ?_)
    have r34 : A0 82 34 = i3 (F 34) := by rw [f1 82 34 (LI1_n 34)]; exact hR 34 (by decide)
    rw [r34]
    refine for_lp (f := stS F m) (n := k) (R := fun i a A B => FI LIs SI A ∧ FJ LRJ SJ B ∧ LWF F A B ∧ A 82 34 = i3 a.1 ∧ (0 ≤ a.1 ∧ a.1 ≤ 65535) ∧ 0 ≤ a.2 ∧ a.2 ≤ i) (G := fun i a A B => GoI E mt_237 44 [some (.ref 81), some (.int (i3 k)), some (.int (i3 m)), some (.int (i3 (F 34))), some (.int (i3 a.2)), some (.int (i3 (i : Nat))), none, none, none] A B Q) ?_ k 0 (F 34, 0) A0 B0 (by omega) ⟨(LI1_R f1).le (fun o k z => Or.inl z), LJ1_R f2, hL0, r34, h34, Int.le_refl 0, Int.le_refl 0⟩ ?_
    · rintro i a A B hi ⟨g1, g2, g3, g4, g5, g6⟩ ih
      obtain ⟨s, c⟩ := a
      dsimp only at g4 g5 g6 ih ⊢
      refine lp_237_44 _ _ _ _ _ A B ⟨fun q => ?_, fun q => ?_⟩
      · rw [i3_le (by omega) (by omega) (by omega) (by omega)] at q; omega
      · have b1 := nxS_b s; have b2 := nxS_b (nxS s); have b3 := nxS_b (nxS (nxS s))
        refine sp_drawn s 21 g5 g4 (by omega) rfl (sp_drawn (nxS s) 21 b1 u2_s (by omega) rfl (sp_drawn (nxS (nxS s)) 101 b2 u2_s (by omega) rfl ?_))
        have hL1 : LWF F (gj_u2 (gj_u2 (gj_u2 A 82 34 (i3 (nxS s))) 82 34 (i3 (nxS (nxS s)))) 82 34 (i3 (nxS (nxS (nxS s))))) B := by
          refine ⟨by rw [u2_n (by omega), u2_n (by omega), u2_n (by omega)]; exact g3.1, fun j hj => ?_⟩
          rw [u2_n (by omega), u2_n (by omega), u2_n (by omega)]; exact g3.2 j hj
        rw [i3_sub, i3_sub, i3_sub, i3_add]
        have hst : stS F m i (s, c) = (nxS (nxS (nxS s)), ic (wiB (hdF F (nxS s % 21 - 10, nxS (nxS s) % 21 - 10, nxS (nxS (nxS s)) % 101 - 50)) m) (c + 1) c) := rfl
        rw [hst] at ih
        generalize nxS (nxS (nxS s)) = s3 at *
        generalize nxS (nxS s) = s2 at *
        generalize nxS s = s1 at *
        refine sp_holdsF hL1 hW hT hN (s1 % 21 - 10, s2 % 21 - 10, s3 % 101 - 50) (by unfold Rb; dsimp only; omega) (i3_64 (by omega) (by omega)) (i3_64 (by omega) (by omega)) (i3_64 (by omega) (by omega)) (fun A2 B2 k1 k2 k3 k4 k5 => ?_)
        have f34 : FI LIs SI A2 := (((g1.u (Or.inr ⟨rfl, rfl⟩)).u (Or.inr ⟨rfl, rfl⟩)).u (Or.inr ⟨rfl, rfl⟩)).tr ((LIh_R k1).le (fun o k z => Or.inl z))
        have e34 : A2 82 34 = i3 s3 := by rw [k1 82 34 (by unfold LIh; omega), u2_s]
        have nx : ∀ v : Int, ic (wiB (hdF F (s1 % 21 - 10, s2 % 21 - 10, s3 % 101 - 50)) m) (c + 1) c = v → (v = c + 1 ∨ v = c) → GoI E mt_237 44 [some (.ref 81), some (.int (i3 k)), some (.int (i3 m)), some (.int (i3 (F 34))), some (.int (i3 v)), some (.int (i3 ((i : Int) + 1))), none, none, none] A2 B2 Q := by
          intro v hv hv2
          subst hv
          exact ih A2 B2 ⟨f34, g2.tr (LJh_R k2), k3, e34, b3, by dsimp only; omega, by dsimp only; omega⟩
        cases hb : hdF F (s1 % 21 - 10, s2 % 21 - 10, s3 % 101 - 50) with
        | none =>
          refine ⟨fun _ => nx _ (ic_f (by rw [hb]; exact fun z => z)) (Or.inr rfl), fun c0 => absurd (ibc_0.mpr (by decide)) c0⟩
        | some d =>
          rw [hb] at k4 k5
          refine ⟨fun c0 => absurd (show (some d).isSome = true from rfl) (ibc_0.mp c0), fun _ => sp_isWithin d k5 m z2 k4 rfl ⟨fun c0 => ?_, fun c0 => ?_⟩⟩
          · rw [ibc_0] at c0
            exact nx _ (ic_f (by rw [hb]; exact c0)) (Or.inr rfl)
          · rw [ibc_0, Classical.not_not] at c0
            rw [i3_add]
            exact nx _ (ic_t (by rw [hb]; exact c0)) (Or.inl rfl)
    · rintro A B ⟨g1, g2, g3, g4, g5, g6⟩
      refine lp_237_44 _ _ _ _ _ A B ⟨fun _ => ?_, fun q => ?_⟩
      · refine h _ _ (fun o k hk => ?_) g2
        by_cases q : o = 82 ∧ k = 34
        · rw [q.1, q.2, u2_s]; exact (hR 34 (by decide)).symm
        · rw [u2_n q]; exact g1 o k (fun z => z.elim hk q)
      · rw [i3_le (by omega) (by omega) (by omega) (by omega)] at q; omega
  · rw [ib_0] at z2; exact bad (fun c => z2 c.2)
end Storm
