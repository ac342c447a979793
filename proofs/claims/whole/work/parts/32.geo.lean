/-! 32: the reference's plate -/
def RF (F : Nat → Int) (SI : gj_I) : Prop := ∀ k, k < 135 → SI 82 k = i3 (F k)
def nC (F : Nat → Int) : Nat := (F 0).toNat
def cx (F : Nat → Int) (i : Nat) : Int := F (1 + i % nC F)
def cy (F : Nat → Int) (i : Nat) : Int := F (9 + i % nC F)
def Wc (F : Nat → Int) : Prop := 1 ≤ F 0 ∧ F 0 ≤ 8 ∧ ∀ i, i < 8 → 0 ≤ F (1 + i) ∧ F (1 + i) ≤ 9 ∧ 0 ≤ F (9 + i) ∧ F (9 + i) ≤ 9
theorem i3_c {a b : Int} (h : a = b) : i3 a = i3 b := by rw [h]
theorem i6_c {a b : Int} (h : a = b) : i6 a = i6 b := by rw [h]
theorem Wc.n {F : Nat → Int} (h : Wc F) : 0 < nC F ∧ nC F ≤ 8 ∧ F 0 = nC F := by
  have h1 := h.1; have h2 := h.2.1; unfold nC; omega
theorem Wc.b {F : Nat → Int} (h : Wc F) (i : Nat) : 0 ≤ cx F i ∧ cx F i ≤ 9 ∧ 0 ≤ cy F i ∧ cy F i ≤ 9 := by
  have h1 := Nat.mod_lt i h.n.1
  have h2 := h.2.2 (i % nC F) (by have := h.n.2.1; omega)
  exact h2
def stp (F : Nat → Int) (e : Nat) : Nat := Int.gcd (cx F (e + 1) - cx F e) (cy F (e + 1) - cy F e)
def ax (F : Nat → Int) (e : Nat) : Int := (cx F (e + 1) - cx F e).tdiv (stp F e)
def ay (F : Nat → Int) (e : Nat) : Int := (cy F (e + 1) - cy F e).tdiv (stp F e)
def px (F : Nat → Int) (e : Nat) (k : Int) : Int := cx F e + k * ax F e
def py (F : Nat → Int) (e : Nat) (k : Int) : Int := cy F e + k * ay F e
def sd (F : Nat → Int) (i j : Nat) (x y : Int) : Int := (cx F j - cx F i) * (y - cy F i) - (cy F j - cy F i) * (x - cx F i)
theorem gcd_le {a b : Int} (h : ¬ (a = 0 ∧ b = 0)) {n : Nat} (ha : a.natAbs ≤ n) (hb : b.natAbs ≤ n) : Int.gcd a b ≤ n := by
  by_cases h0 : a = 0
  · have : Int.gcd a b = b.natAbs := by rw [h0]; exact Int.gcd_zero_left b
    omega
  · have h1 := Nat.gcd_le_left b.natAbs (show 0 < a.natAbs by omega)
    have : Int.gcd a b = Nat.gcd a.natAbs b.natAbs := rfl
    omega
theorem Wc.s {F : Nat → Int} (h : Wc F) (e : Nat) : stp F e ≤ 9 := by
  have h1 := h.b e; have h2 := h.b (e + 1)
  unfold stp
  by_cases h0 : cx F (e + 1) - cx F e = 0 ∧ cy F (e + 1) - cy F e = 0
  · rw [h0.1, h0.2]; decide
  · exact gcd_le h0 (by omega) (by omega)
theorem tdiv_b (a : Int) (n : Nat) : (a.tdiv n).natAbs ≤ a.natAbs := Int.natAbs_tdiv_le_natAbs a n
theorem Wc.a {F : Nat → Int} (h : Wc F) (e : Nat) : -9 ≤ ax F e ∧ ax F e ≤ 9 ∧ -9 ≤ ay F e ∧ ay F e ≤ 9 := by
  have h1 := h.b e; have h2 := h.b (e + 1)
  have h3 := tdiv_b (cx F (e + 1) - cx F e) (stp F e)
  have h4 := tdiv_b (cy F (e + 1) - cy F e) (stp F e)
  unfold ax ay
  omega
section Geo
variable {E : gj_E} {SI : gj_I} {SJ : gj_J} {F : Nat → Int}
theorem sp_corners {Q : Int32 → gj_I → gj_J → Prop} (hR : RF F SI) (h : Q (i3 (F 0)) SI SJ) : DoI E 162 [(.ref 81)] SI SJ Q := st_162 SI SJ (by rw [hR 0 (by decide)]; exact h)
theorem sp_cornerX {Q : Int32 → gj_I → gj_J → Prop} {a : Int32} (hR : RF F SI) (hW : Wc F) (i : Nat) (hi : i < 1000) (ha : a = i3 i) (h : Q (i3 (cx F i)) SI SJ) : DoI E 163 [(.ref 81), (.int a)] SI SJ Q := by
  subst ha
  obtain ⟨n1, n2, n3⟩ := hW.n
  have hm := Nat.mod_lt i n1
  refine st_163 _ SI SJ (sp_corners hR ?_)
  rw [n3, i3_remN (by omega) n1 (by omega), i3_add, i3_n (by omega) (by omega), i3_in (by omega) (by omega), show ((1 : Int) + ((i % nC F : Nat) : Int)).toNat = 1 + i % nC F by omega, hR _ (by omega)]
  exact ⟨fun q => by rw [i3_z, i3_eq (by omega) (by omega) (by omega) (by omega)] at q; omega, by omega, h⟩
theorem sp_cornerY {Q : Int32 → gj_I → gj_J → Prop} {a : Int32} (hR : RF F SI) (hW : Wc F) (i : Nat) (hi : i < 1000) (ha : a = i3 i) (h : Q (i3 (cy F i)) SI SJ) : DoI E 164 [(.ref 81), (.int a)] SI SJ Q := by
  subst ha
  obtain ⟨n1, n2, n3⟩ := hW.n
  have hm := Nat.mod_lt i n1
  refine st_164 _ SI SJ (sp_corners hR ?_)
  rw [n3, i3_remN (by omega) n1 (by omega), i3_add, i3_n (by omega) (by omega), i3_in (by omega) (by omega), show ((9 : Int) + ((i % nC F : Nat) : Int)).toNat = 9 + i % nC F by omega, hR _ (by omega)]
  exact ⟨fun q => by rw [i3_z, i3_eq (by omega) (by omega) (by omega) (by omega)] at q; omega, by omega, h⟩
theorem sp_stepsOf {Q : Int32 → gj_I → gj_J → Prop} {a : Int32} (hR : RF F SI) (hW : Wc F) (e : Nat) (he : e < 900) (ha : a = i3 e) (h : Q (i3 (stp F e)) SI SJ) : DoI E 165 [(.ref 81), (.int a)] SI SJ Q := by
  subst ha
  have h1 := hW.b e; have h2 := hW.b (e + 1); have h3 := hW.s e
  refine st_165 _ SI SJ ?_
  rw [i3_add]
  refine sp_cornerX hR hW (e + 1) (by omega) (i3_c (by omega)) (sp_cornerX hR hW e (by omega) rfl (sp_cornerY hR hW (e + 1) (by omega) (i3_c (by omega)) (sp_cornerY hR hW e (by omega) rfl ?_)))
  rw [i3_sub, i3_sub, i3_64 (by omega) (by omega), i3_64 (by omega) (by omega)]
  refine sp_common (by omega) (by omega) (by omega) (by omega) ?_
  rw [i6_32 (by omega) (by unfold stp at h3; omega)]
  exact h
theorem sp_alongX {Q : Int32 → gj_I → gj_J → Prop} {a : Int32} (hR : RF F SI) (hW : Wc F) (e : Nat) (he : e < 900) (hs : 1 ≤ stp F e) (ha : a = i3 e) (h : Q (i3 (ax F e)) SI SJ) : DoI E 166 [(.ref 81), (.int a)] SI SJ Q := by
  subst ha
  have h1 := hW.b e; have h2 := hW.b (e + 1); have h3 := hW.s e
  refine st_166 _ SI SJ ?_
  rw [i3_add]
  refine sp_cornerX hR hW (e + 1) (by omega) (i3_c (by omega)) (sp_cornerX hR hW e (by omega) rfl (sp_stepsOf hR hW e he rfl ⟨?_, ?_⟩))
  · rw [i3_z, i3_eq (by omega) (by omega) (by omega) (by omega)]; omega
  · rw [i3_sub, i3_div (by omega) (by omega) (by omega) (by omega)]; exact h
theorem sp_alongY {Q : Int32 → gj_I → gj_J → Prop} {a : Int32} (hR : RF F SI) (hW : Wc F) (e : Nat) (he : e < 900) (hs : 1 ≤ stp F e) (ha : a = i3 e) (h : Q (i3 (ay F e)) SI SJ) : DoI E 167 [(.ref 81), (.int a)] SI SJ Q := by
  subst ha
  have h1 := hW.b e; have h2 := hW.b (e + 1); have h3 := hW.s e
  refine st_167 _ SI SJ ?_
  rw [i3_add]
  refine sp_cornerY hR hW (e + 1) (by omega) (i3_c (by omega)) (sp_cornerY hR hW e (by omega) rfl (sp_stepsOf hR hW e he rfl ⟨?_, ?_⟩))
  · rw [i3_z, i3_eq (by omega) (by omega) (by omega) (by omega)]; omega
  · rw [i3_sub, i3_div (by omega) (by omega) (by omega) (by omega)]; exact h
theorem sp_atX {Q : Int32 → gj_I → gj_J → Prop} {a b : Int32} (hR : RF F SI) (hW : Wc F) (e : Nat) (k : Int) (he : e < 900) (hs : 1 ≤ stp F e) (ha : a = i3 e) (hb : b = i3 k) (h : Q (i3 (px F e k)) SI SJ) : DoI E 168 [(.ref 81), (.int a), (.int b)] SI SJ Q := by
  subst ha; subst hb
  refine st_168 _ _ SI SJ (sp_cornerX hR hW e (by omega) rfl (sp_alongX hR hW e he hs rfl ?_))
  rw [i3_mul, i3_add]; exact h
theorem sp_atY {Q : Int32 → gj_I → gj_J → Prop} {a b : Int32} (hR : RF F SI) (hW : Wc F) (e : Nat) (k : Int) (he : e < 900) (hs : 1 ≤ stp F e) (ha : a = i3 e) (hb : b = i3 k) (h : Q (i3 (py F e k)) SI SJ) : DoI E 169 [(.ref 81), (.int a), (.int b)] SI SJ Q := by
  subst ha; subst hb
  refine st_169 _ _ SI SJ (sp_cornerY hR hW e (by omega) rfl (sp_alongY hR hW e he hs rfl ?_))
  rw [i3_mul, i3_add]; exact h
theorem sp_sideOf {Q : Int64 → gj_I → gj_J → Prop} {a b x y : Int32} (hR : RF F SI) (hW : Wc F) (i j : Nat) (u v : Int) (hi : i < 900) (hj : j < 900) (hu : -100 ≤ u ∧ u ≤ 100) (hv : -100 ≤ v ∧ v ≤ 100) (ha : a = i3 i) (hb : b = i3 j) (hx : x = i3 u) (hy : y = i3 v) (h : Q (i6 (sd F i j u v)) SI SJ) : DoL E 170 [(.ref 81), (.int a), (.int b), (.int x), (.int y)] SI SJ Q := by
  subst ha; subst hb; subst hx; subst hy
  have h1 := hW.b i; have h2 := hW.b j
  refine st_170 _ _ _ _ SI SJ (sp_cornerX hR hW j (by omega) rfl (sp_cornerX hR hW i (by omega) rfl (sp_cornerY hR hW i (by omega) rfl (sp_cornerY hR hW j (by omega) rfl (sp_cornerY hR hW i (by omega) rfl (sp_cornerX hR hW i (by omega) rfl ?_))))))
  rw [i3_sub, i3_sub, i3_sub, i3_sub, i3_64 (by omega) (by omega), i3_64 (by omega) (by omega), i3_64 (by omega) (by omega), i3_64 (by omega) (by omega), i6_mul, i6_mul, i6_sub]
  exact h
end Geo
