/-! 66: the reference's held, effort, holder -/
def LRI (o k : Nat) : Prop := (o = 81 ∧ k ≠ 3 ∧ k ≠ 13) ∨ o = 84 ∨ (85 ≤ o ∧ o ≠ 89 ∧ o ≤ 102)
def LRJ (o _k : Nat) : Prop := 81 ≤ o ∧ o ≤ 102
theorem LRI_82 : ∀ k, ¬ LRI 82 k := by intro k; unfold LRI; omega
theorem LI1_R {A B : gj_I} (h : FI LI1 A B) : FI LRI A B := h.le (fun o k z => by unfold LI1 at z; unfold LRI; omega)
theorem LJ1_R {A B : gj_J} (h : FJ LJ1 A B) : FJ LRJ A B := h.le (fun o k z => by unfold LJ1 at z; unfold LRJ; omega)
theorem LIh_R {A B : gj_I} (h : FI LIh A B) : FI LRI A B := h.le (fun o k z => by unfold LIh at z; unfold LRI; omega)
theorem LJh_R {A B : gj_J} (h : FJ LJh A B) : FJ LRJ A B := h.le (fun o k z => by unfold LJh at z; unfold LRJ; omega)
theorem LPx_R {A B : gj_J} (h : FJ LPx A B) : FJ LRJ A B := h.le (fun o k z => by unfold LPx at z; unfold LRJ; omega)
noncomputable def WW (F : Nat → Int) : Nat → V3 := Wl F (ctF F)
def nW (F : Nat → Int) : Nat := nf F * fc F
noncomputable def hdF (F : Nat → Int) (f : V3) : Option Cd := hdB (WW F) (nW F) (neg3 f)
theorem wr_z {F : Nat → Int} {e : Nat} {k u v : Int} (h : ¬ (u = 0 ∧ v = 0)) : ¬ ((wr F e k u v).1 = 0 ∧ (wr F e k u v).2.1 = 0) := by
  rintro ⟨h1, h2⟩
  have h1' : lox u v = 0 := h1
  have h2' : loy u v = 0 := h2
  have d1 : lox u v * ((Int.gcd u v : Nat) : Int) = u := Int.tdiv_mul_cancel (Int.gcd_dvd_left ..)
  have d2 : loy u v * ((Int.gcd u v : Nat) : Int) = v := Int.tdiv_mul_cancel (Int.gcd_dvd_right ..)
  rw [h1', Int.zero_mul] at d1
  rw [h2', Int.zero_mul] at d2
  exact h ⟨d1.symm, d2.symm⟩
theorem Wl_z {F : Nat → Int} (hW : Wp F) (hT : Wt F) (ct : Nat → Nat × Int) (j : Nat) : ¬ ((Wl F ct j).1 = 0 ∧ (Wl F ct j).2.1 = 0) := by
  unfold Wl wf
  refine wr_z (nz_force hT.2.2.1 ?_ (hW.T _))
  split
  · exact Or.inl rfl
  · exact Or.inr rfl
section Held
variable {E : gj_E} {SI : gj_I} {SJ : gj_J} {F : Nat → Int}
theorem LWF.h {A : gj_I} {B : gj_J} (h : LWF F SI SJ) (fa : FI LIh SI A) (fb : FJ LJh SJ B) : LWF F A B := by
  refine ⟨by rw [fa 81 8 (by unfold LIh; omega)]; exact h.1, fun j hj => ?_⟩
  obtain ⟨l1, l2, l3, l4⟩ := h.2 j hj
  rw [fb 85 j (by unfold LJh; omega), fb 86 j (by unfold LJh; omega), fb 87 j (by unfold LJh; omega), fa 88 j (by unfold LIh; omega)]
  exact ⟨l1, l2, l3, l4⟩
theorem sp_holdsF {Q : Int32 → gj_I → gj_J → Prop} {a1 a2 a3 : Int64} (hL : LWF F SI SJ) (hW : Wp F) (hT : Wt F) (hN : Wn F) (f : V3) (hr : Rb f) (e1 : a1 = i6 f.1) (e2 : a2 = i6 f.2.1) (e3 : a3 = i6 f.2.2) (h : ∀ SI' SJ', FI LIh SI SI' → FJ LJh SJ SJ' → LWF F SI' SJ' → RB (hdF F f) SI' SJ' → WB (hdF F f) → Q (ibc ((hdF F f).isSome = true)) SI' SJ') : DoI E 227 [(.ref 81), (.long a1), (.long a2), (.long a3)] SI SJ Q := by
  have nb := nw_b hN
  refine sp_holds hL (by omega) (Wl_b hW hT (hN.ok hW.1)) (fun j _ => Wl_z hW hT _ j) f hr e1 e2 e3 (fun A B f1 f2 g1 g2 => h A B f1 f2 (hL.h f1 f2) g1 g2)
theorem sp_isPush {Q : Int32 → gj_I → gj_J → Prop} {a1 a2 a3 : Int32} (x y t : Int) (xr : -2147483648 ≤ x ∧ x < 2147483648) (yr : -2147483648 ≤ y ∧ y < 2147483648) (tr : -2147483648 ≤ t ∧ t < 2147483648) (e1 : a1 = i3 x) (e2 : a2 = i3 y) (e3 : a3 = i3 t) (h : Q (ibc ((-1000 ≤ x ∧ x ≤ 1000) ∧ (-1000 ≤ y ∧ y ≤ 1000) ∧ (-1000 ≤ t ∧ t ≤ 1000))) SI SJ) : DoI E 228 [(.int a1), (.int a2), (.int a3)] SI SJ Q := by
  subst e1; subst e2; subst e3
  refine st_228 _ _ _ SI SJ ?_
  rw [i3_64 (by omega) (by omega), i3_64 (by omega) (by omega), i3_64 (by omega) (by omega)]
  refine sp_in (by omega) (by omega) (by omega) (by omega) (by omega) (by omega) ⟨fun z => ?_, fun z => sp_in (by omega) (by omega) (by omega) (by omega) (by omega) (by omega) ⟨fun z2 => ?_, fun z2 => sp_in (by omega) (by omega) (by omega) (by omega) (by omega) (by omega) ⟨fun z3 => ?_, fun z3 => ?_⟩⟩⟩
  · rw [ib_0] at z; rw [ibc_f (fun c => z c.1)] at h; exact h
  · rw [ib_0] at z2; rw [ibc_f (fun c => z2 c.2.1)] at h; exact h
  · rw [ib_0] at z3; rw [ibc_f (fun c => z3 c.2.2)] at h; exact h
  · rw [ib_0, Decidable.not_not] at z z2 z3; rw [ibc_t ⟨z, z2, z3⟩] at h; exact h
def isP (x y t : Int) : Prop := (-1000 ≤ x ∧ x ≤ 1000) ∧ (-1000 ≤ y ∧ y ≤ 1000) ∧ (-1000 ≤ t ∧ t ≤ 1000)
noncomputable def heldA (F : Nat → Int) (x y t : Int) : Int := ic (isP x y t) (bz ((hdF F (x, y, t)).isSome = true)) (-1)
theorem sp_held {Q : Int32 → gj_I → gj_J → Prop} {a1 a2 a3 : Int32} (hR : RF F SI) (hW : Wp F) (hT : Wt F) (hN : Wn F) (x y t : Int) (xr : -2147483648 ≤ x ∧ x < 2147483648) (yr : -2147483648 ≤ y ∧ y < 2147483648) (tr : -2147483648 ≤ t ∧ t < 2147483648) (e1 : a1 = i3 x) (e2 : a2 = i3 y) (e3 : a3 = i3 t) (h : ∀ SI' SJ', FI LRI SI SI' → FJ LRJ SJ SJ' → Q (i3 (heldA F x y t)) SI' SJ') : DoI E 229 [(.ref 81), (.int a1), (.int a2), (.int a3)] SI SJ Q := by
  refine st_229 _ _ _ SI SJ (sp_isPush x y t xr yr tr e1 e2 e3 ⟨fun z => ?_, fun z => ?_⟩)
  · rw [ibc_0, Classical.not_not] at z
    refine sp_lays hR hW hT hN (fun A B f1 f2 hL => ?_)
    refine sp_holdsF hL hW hT hN (x, y, t) (by unfold Rb; dsimp only; omega) (by rw [e1, i3_64 (by omega) (by omega)]) (by rw [e2, i3_64 (by omega) (by omega)]) (by rw [e3, i3_64 (by omega) (by omega)]) (fun A2 B2 g1 g2 _ g3 g4 => ?_)
    have hh := h A2 B2 ((LI1_R f1).tr (LIh_R g1)) ((LJ1_R f2).tr (LJh_R g2))
    have e : heldA F x y t = bz ((hdF F (x, y, t)).isSome = true) := ic_t z
    rw [e] at hh
    refine ⟨fun c => ?_, fun c => ?_⟩
    · rw [ibc_0] at c; rw [bz_f c] at hh; exact hh
    · rw [ibc_0, Classical.not_not] at c; rw [bz_t c] at hh; exact hh
  · rw [ibc_0] at z
    have e : heldA F x y t = -1 := ic_f z
    have hh := h SI SJ FI.rf FJ.rf
    rw [e] at hh; exact hh
/-- effort of what holds: above, below the line; nothing holds: x -/
def efA (b : Option Cd) (w x : Int) : Int := match b with
  | none => x
  | some c => if w = 0 then lox (sumC c) c.2.2.2 else loy (sumC c) c.2.2.2
noncomputable def effortA (F : Nat → Int) (x y t w : Int) : Int := ic (isP x y t ∧ 0 ≤ w ∧ w ≤ 1) (efA (hdF F (x, y, t)) w (-9000000000000000000)) (-9000000000000000000)
theorem sp_effort {Q : Int64 → gj_I → gj_J → Prop} {a1 a2 a3 a4 : Int32} (hR : RF F SI) (hW : Wp F) (hT : Wt F) (hN : Wn F) (x y t w : Int) (xr : -2147483648 ≤ x ∧ x < 2147483648) (yr : -2147483648 ≤ y ∧ y < 2147483648) (tr : -2147483648 ≤ t ∧ t < 2147483648) (wr : -2147483648 ≤ w ∧ w < 2147483648) (e1 : a1 = i3 x) (e2 : a2 = i3 y) (e3 : a3 = i3 t) (e4 : a4 = i3 w) (h : ∀ SI' SJ', FI LRI SI SI' → FJ LRJ SJ SJ' → Q (i6 (effortA F x y t w)) SI' SJ') : DoL E 230 [(.ref 81), (.int a1), (.int a2), (.int a3), (.int a4)] SI SJ Q := by
  subst e4
  have bad : ¬ (isP x y t ∧ 0 ≤ w ∧ w ≤ 1) → Q (i6 (-9000000000000000000)) SI SJ := by
    intro z
    have e : effortA F x y t w = -9000000000000000000 := ic_f z
    have hh := h SI SJ FI.rf FJ.rf
    rw [e] at hh; exact hh
  refine st_230 _ _ _ _ SI SJ (sp_isPush x y t xr yr tr e1 e2 e3 ⟨fun z => ?_, fun z => ?_⟩)
  · rw [ibc_0] at z; exact bad (fun c => z c.1)
  · rw [ibc_0, Classical.not_not] at z
    rw [i3_64 (by omega) (by omega)]
    refine sp_in (by omega) (by omega) (by omega) (by omega) (by omega) (by omega) ⟨fun z2 => ?_, fun z2 => ?_⟩
    · rw [ib_0, Decidable.not_not] at z2
      refine sp_lays hR hW hT hN (fun A B f1 f2 hL => ?_)
      refine sp_holdsF hL hW hT hN (x, y, t) (by unfold Rb; dsimp only; omega) (by rw [e1, i3_64 (by omega) (by omega)]) (by rw [e2, i3_64 (by omega) (by omega)]) (by rw [e3, i3_64 (by omega) (by omega)]) (fun A2 B2 g1 g2 _ g3 g4 => ?_)
      have hh := h A2 B2 ((LI1_R f1).tr (LIh_R g1)) ((LJ1_R f2).tr (LJh_R g2))
      have e : effortA F x y t w = efA (hdF F (x, y, t)) w (-9000000000000000000) := ic_t ⟨z, z2⟩
      rw [e] at hh
      rw [i3_eq0 (by omega) (by omega)]
      cases hb : hdF F (x, y, t) with
      | none =>
        rw [hb] at hh
        exact ⟨fun c => absurd (ibc_0.mpr (by decide)) c, fun _ => hh⟩
      | some c =>
        rw [hb] at hh g3
        obtain ⟨d0, d1, d2, d3⟩ := g3
        rw [d1, d2]
        refine ⟨fun _ => ⟨fun c0 => ?_, fun c0 => ?_⟩, fun c0 => absurd (show (some c).isSome = true from rfl) (ibc_0.mp c0)⟩
        · have e2 : efA (some c) w (-9000000000000000000) = loy (sumC c) c.2.2.2 := if_neg c0
          rw [e2] at hh; exact hh
        · have e2 : efA (some c) w (-9000000000000000000) = lox (sumC c) c.2.2.2 := if_pos c0
          rw [e2] at hh; exact hh
    · rw [ib_0] at z2; exact bad (fun c => z2 c.2)
def hoA (b : Option Cd) (k w : Int) : Int := match b with
  | none => -9000000000000000000
  | some c => if k = -1 then (if w = 0 then c.1 else -9000000000000000000) else if k < c.1 then (if w = 0 then ((ck c.2.1 k.toNat : Nat) : Int) else if w = 1 then lox (ck c.2.2.1 k.toNat) c.2.2.2 else loy (ck c.2.2.1 k.toNat) c.2.2.2) else -9000000000000000000
noncomputable def holderA (F : Nat → Int) (x y t k w : Int) : Int := ic (isP x y t ∧ -1 ≤ k ∧ 0 ≤ w ∧ w ≤ 2) (hoA (hdF F (x, y, t)) k w) (-9000000000000000000)
end Held
