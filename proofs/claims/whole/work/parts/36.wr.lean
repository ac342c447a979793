/-! 36: wrenches of the reference -/
abbrev V3 : Type := Int × Int × Int
def lox (u v : Int) : Int := u.tdiv (Int.gcd u v)
def loy (u v : Int) : Int := v.tdiv (Int.gcd u v)
/-- the wrench of a force (u, v), lowered, at step k of edge e -/
def wr (F : Nat → Int) (e : Nat) (k u v : Int) : V3 := (lox u v, loy u v, (px F e k - F 32) * loy u v - (py F e k - F 33) * lox u v)
theorem w2_s {f : gj_J} {o k : Nat} {x : Int64} : gj_w2 f o k x o k = x := by simp [gj_w2]
theorem w2_n {f : gj_J} {o k a b : Nat} {x : Int64} (h : ¬ (a = o ∧ b = k)) : gj_w2 f o k x a b = f a b := by
  unfold gj_w2
  by_cases h1 : a = o
  · have h2 : Nat.beq b k = false := gj_nb (fun q => h ⟨h1, q⟩)
    simp [h2]
  · have h2 : Nat.beq a o = false := gj_nb h1
    simp [h2]
theorem u2_s {f : gj_I} {o k : Nat} {x : Int32} : gj_u2 f o k x o k = x := by simp [gj_u2]
theorem u2_n {f : gj_I} {o k a b : Nat} {x : Int32} (h : ¬ (a = o ∧ b = k)) : gj_u2 f o k x a b = f a b := by
  unfold gj_u2
  by_cases h1 : a = o
  · have h2 : Nat.beq b k = false := gj_nb (fun q => h ⟨h1, q⟩)
    simp [h2]
  · have h2 : Nat.beq a o = false := gj_nb h1
    simp [h2]
def LI1 (o k : Nat) : Prop := o = 88 ∨ (o = 81 ∧ k = 8)
def LJ1 (o k : Nat) : Prop := o = 85 ∨ o = 86 ∨ o = 87 ∨ (o = 81 ∧ (k = 9 ∨ k = 10 ∨ k = 11))
def FI (L : Nat → Nat → Prop) (SI SI' : gj_I) : Prop := ∀ o k, ¬ L o k → SI' o k = SI o k
def FJ (L : Nat → Nat → Prop) (SJ SJ' : gj_J) : Prop := ∀ o k, ¬ L o k → SJ' o k = SJ o k
theorem FI.rf {L : Nat → Nat → Prop} {SI : gj_I} : FI L SI SI := fun _ _ _ => rfl
theorem FJ.rf {L : Nat → Nat → Prop} {SJ : gj_J} : FJ L SJ SJ := fun _ _ _ => rfl
theorem FI.tr {L : Nat → Nat → Prop} {A B C : gj_I} (h1 : FI L A B) (h2 : FI L B C) : FI L A C := fun o k h => (h2 o k h).trans (h1 o k h)
theorem FJ.tr {L : Nat → Nat → Prop} {A B C : gj_J} (h1 : FJ L A B) (h2 : FJ L B C) : FJ L A C := fun o k h => (h2 o k h).trans (h1 o k h)
theorem FI.u {L : Nat → Nat → Prop} {A B : gj_I} {o k : Nat} {x : Int32} (h : FI L A B) (hl : L o k) : FI L A (gj_u2 B o k x) := fun a b hab => (u2_n (fun q => hab (by rw [q.1, q.2]; exact hl))).trans (h a b hab)
theorem FJ.w {L : Nat → Nat → Prop} {A B : gj_J} {o k : Nat} {x : Int64} (h : FJ L A B) (hl : L o k) : FJ L A (gj_w2 B o k x) := fun a b hab => (w2_n (fun q => hab (by rw [q.1, q.2]; exact hl))).trans (h a b hab)
theorem FI.le {L M : Nat → Nat → Prop} {A B : gj_I} (h : FI L A B) (hl : ∀ o k, L o k → M o k) : FI M A B := fun o k q => h o k (fun z => q (hl o k z))
theorem FJ.le {L M : Nat → Nat → Prop} {A B : gj_J} (h : FJ L A B) (hl : ∀ o k, L o k → M o k) : FJ M A B := fun o k q => h o k (fun z => q (hl o k z))
theorem RF.f {F : Nat → Int} {L : Nat → Nat → Prop} {A B : gj_I} (h : RF F A) (hf : FI L A B) (hl : ∀ k, ¬ L 82 k) : RF F B := fun k hk => (hf 82 k (hl k)).trans (h k hk)
/-- the reference's arrays hold n wrenches -/
def LW (W : Nat → V3) (O : Nat → Int) (n : Nat) (SI : gj_I) (SJ : gj_J) : Prop := SI 81 8 = i3 n ∧ ∀ j, j < n → SJ 85 j = i6 (W j).1 ∧ SJ 86 j = i6 (W j).2.1 ∧ SJ 87 j = i6 (W j).2.2 ∧ SI 88 j = i3 (O j)
def Wb (W : Nat → V3) (n : Nat) : Prop := ∀ j, j < n → (W j).1.natAbs ≤ 60 ∧ (W j).2.1.natAbs ≤ 60 ∧ (W j).2.2.natAbs ≤ 1200
theorem lo_b (u v : Int) : (lox u v).natAbs ≤ u.natAbs ∧ (loy u v).natAbs ≤ v.natAbs := ⟨tdiv_b u _, tdiv_b v _⟩
section Wr
variable {E : gj_E} {SI : gj_I} {SJ : gj_J} {F : Nat → Int}
theorem sp_comesForce {Q : gj_I → gj_J → Prop} {a b g : Int32} {p q : Int64} (hR : RF F SI) (hW : Wp F) (e : Nat) (k u v : Int) (n : Nat) (he : e < 900) (hk : 0 ≤ k ∧ k ≤ 9) (hu : u.natAbs ≤ 60) (hv : v.natAbs ≤ 60) (hz : ¬ (u = 0 ∧ v = 0)) (hc : 0 ≤ F 32 ∧ F 32 ≤ 9 ∧ 0 ≤ F 33 ∧ F 33 ≤ 9) (hn : n < 16) (hw : SI 81 8 = i3 n) (ha : a = i3 e) (hb : b = i3 k) (hp : p = i6 u) (hq : q = i6 v) (h : Q (gj_u2 (gj_u2 SI 88 n g) 81 8 (i3 ((n + 1 : Nat) : Int))) (gj_w2 (gj_w2 (gj_w2 SJ 85 n (i6 (wr F e k u v).1)) 86 n (i6 (wr F e k u v).2.1)) 87 n (i6 (wr F e k u v).2.2))) : DoV E 182 [(.ref 81), (.int a), (.int b), (.long p), (.long q), (.int g)] SI SJ Q := by
  subst ha; subst hb; subst hp; subst hq
  have hg : 1 ≤ Int.gcd u v ∧ Int.gcd u v ≤ 60 := by
    refine ⟨?_, gcd_le hz hu hv⟩
    rcases Nat.eq_zero_or_pos (Int.gcd u v) with q | q
    · exact absurd (Int.gcd_eq_zero_iff.mp q) hz
    · exact q
  obtain ⟨l1, l2⟩ := lo_b u v
  have hs := hW.2.2 e
  have b1 := hW.1.b e; have b2 := hW.1.a e
  have b3 := mul_b (a := k) (b := ax F e) (m := 9) (n := 9) (by omega) (by omega)
  have b4 := mul_b (a := k) (b := ay F e) (m := 9) (n := 9) (by omega) (by omega)
  have b5 : (px F e k).natAbs ≤ 90 := by unfold px; omega
  have b6 : (py F e k).natAbs ≤ 90 := by unfold py; omega
  refine st_182 _ _ _ _ _ SI SJ (sp_common (by omega) (by omega) (by omega) (by omega) ?_)
  rw [hw, i3_in (by omega) (by omega), i6_eq0 (by omega) (by omega), i6_div (by omega) (by omega) (by omega) (by omega), i6_div (by omega) (by omega) (by omega) (by omega), i3_n (by omega) (by omega), show ((n : Int)).toNat = n by omega]
  refine ⟨by omega, by omega, sp_atX hR hW.1 e k he hs rfl rfl ?_⟩
  rw [hw]
  refine ⟨by rw [i3_in (by omega) (by omega)]; omega, sp_atY hR hW.1 e k he hs rfl rfl ?_⟩
  rw [hw, hR 32 (by decide), hR 33 (by decide), i3_n (by omega) (by omega), show ((n : Int)).toNat = n by omega, i3_sub, i3_sub, i3_64 (by omega) (by omega), i3_64 (by omega) (by omega), w2_s, w2_n (by omega), w2_s, i6_mul, i6_mul, i6_sub, i3_add]
  refine ⟨by rw [i3_in (by omega) (by omega)]; omega, ?_⟩
  exact h
end Wr
