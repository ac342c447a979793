/-! au: the file at the start, cells that are still nothing -/
def FZ : Nat → Int := fu (fu (fu (fu (fu (fu (fu (fu (fu (fu (fun _ => 0) 0 4) 2 4) 3 4) 11 4) 12 4) 30 1) 31 1) 32 2) 33 2) 34 1
theorem FZ_nC : nC FZ = 4 := by decide
theorem FZ_17 : FZ 17 = 0 := by decide
theorem FZ_Wc : Wc FZ := by
  refine ⟨by decide, by decide, ?_⟩
  decide
theorem FZ_stp (e : Nat) : stp FZ e = 4 := by
  have h : stp FZ e = stp FZ (e % 4) := by
    unfold stp cx cy
    rw [FZ_nC, show (e % 4 + 1) % 4 = (e + 1) % 4 by omega, show e % 4 % 4 = e % 4 by omega]
  rw [h]
  have : ∀ i, i < 4 → stp FZ i = 4 := by decide
  exact this _ (by omega)
theorem FZ_Wp : Wp FZ := ⟨FZ_Wc, by decide, fun e => by rw [FZ_stp]; decide⟩
theorem FZ_WF : WF FZ := by
  refine ⟨FZ_Wp, by unfold Wt; decide, ⟨by decide, by decide, fun i hi => ?_⟩, ⟨by decide, by decide, by decide⟩, ⟨by decide, by decide, fun j hj => ?_⟩, ⟨by decide, by decide, by decide, by decide, by decide⟩⟩
  · rw [FZ_17] at hi; omega
  · rw [show FZ 35 = 0 by decide] at hj; omega
theorem FZ_IV : IV FZ := ⟨FZ_WF, by unfold Wa; decide⟩
theorem FZ_nW : nf FZ * fc FZ = 0 := by decide
theorem noS (s i : Nat) : ¬ inS s 0 i := fun h => absurd h.1 (Nat.not_lt_zero _)
theorem FZ_firm : ¬ firmF FZ := by
  unfold firmF
  rw [FZ_nW]
  rintro ⟨⟨i, j, k, -, h, -⟩, -⟩
  exact noS _ _ h
theorem FZ_rk : rkF FZ = 0 := by
  have h : rkI (Wl FZ (ctF FZ)) (nf FZ * fc FZ) (fullS (nf FZ * fc FZ)) (rkF FZ) := (Classical.choose_spec (rkI_ex (Wl FZ (ctF FZ)) (nf FZ * fc FZ) (fullS (nf FZ * fc FZ)))).1
  rw [FZ_nW] at h
  rcases h with ⟨-, i, j, k, -, h, -⟩ | ⟨-, ⟨-, i, j, -, h, -⟩ | ⟨-, ⟨-, i, h⟩ | ⟨h, -⟩⟩⟩
  · exact absurd h (noS _ _)
  · exact absurd h (noS _ _)
  · exact absurd h (noS _ _)
  · exact h
def ZZ (n : Nat) (SI : gj_I) (SJ : gj_J) : Prop := ∀ o k, n ≤ o → SI o k = 0 ∧ SJ o k = 0
section ZZs
variable {n n2 o k : Nat} {SI A : gj_I} {SJ B : gj_J} {x : Int32} {y : Int64}
theorem ZZ.u (h : ZZ n SI SJ) (ho : o < n) : ZZ n (gj_u2 SI o k x) SJ := fun a b hab => ⟨by rw [u2_n (by omega)]; exact (h a b hab).1, (h a b hab).2⟩
theorem ZZ.w (h : ZZ n SI SJ) (ho : o < n) : ZZ n SI (gj_w2 SJ o k y) := fun a b hab => ⟨(h a b hab).1, by rw [w2_n (by omega)]; exact (h a b hab).2⟩
theorem ZZ.le (h : ZZ n SI SJ) (hn : n ≤ n2) : ZZ n2 SI SJ := fun a b hab => h a b (by omega)
/-- the places of an object and of what is made behind it -/
def Lk (o n n2 : Nat) (a _b : Nat) : Prop := a = o ∨ (n ≤ a ∧ a < n2)
theorem bth_0 (hX : PX4 FZ A) (hD : PD4 FZ A) (h35 : A 3 5 = i3 0) (h36 : A 3 6 = i3 1) (h37 : A 3 7 = i3 1) (h38 : A 3 8 = i3 2) (h39 : A 3 9 = i3 2) (h310 : A 3 10 = i3 1) (h311 : A 3 11 = i3 0) (h312 : A 3 12 = i3 0) (h11 : A 1 1 = i3 0) (h2 : ∀ k, A 2 k = 0) (h42 : A 42 9 = i3 0) (h654 : A 65 4 = i3 0) (h655 : A 65 5 = i3 0) (h011 : A 0 11 = i3 0) (h012 : A 0 12 = i3 0) (h013 : A 0 13 = i3 0) (hR : RF FZ A) (h83 : ∀ k, A 83 k = 0) (h89 : ∀ k, A 89 k = 0) (h8113 : A 81 13 = 0) (h813 : A 81 3 = 0) : BTH FZ (fun _ => 0) (fun _ => 0) false 0 A B := by
  refine ⟨⟨FZ_IV, fun z => Bool.noConfusion z⟩, ⟨⟨⟨hX, hD, ⟨h35, fun i hi => ?_, h36, h37, h38, h39⟩, ⟨h311, fun k w hk => ?_⟩, ⟨h310, h312, fun k hk => ?_⟩⟩, ⟨⟨?_, fun j hj => ?_⟩, fun i j _ hj => ?_, ?_, ?_⟩, Or.inl h654, Or.inl h655⟩, ⟨fun k _ => ⟨Int.le_refl _, by show (0 : Int) ≤ 255; decide, h2 k⟩, h11, by decide, by decide⟩, fun z => Bool.noConfusion z, h011⟩, ⟨hR, fun k _ => h83 k, fun k _ => ⟨Int.le_refl _, by show (0 : Int) ≤ 255; decide, ?_⟩, h8113, h813⟩⟩
  · rw [FZ_17] at hi; omega
  · rw [show FZ 35 = 0 by decide] at hk; omega
  · rw [show FZ 116 = 0 by decide] at hk; omega
  · rw [show nW FZ = 0 from FZ_nW]; exact h42
  · rw [show nW FZ = 0 from FZ_nW] at hj; omega
  · rw [show nW FZ = 0 from FZ_nW] at hj; omega
  · rw [FZ_rk]; exact h012
  · rw [ibc_f FZ_firm]; exact h013
  · rw [h89 k]; rfl
end ZZs
