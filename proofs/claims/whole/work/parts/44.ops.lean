/-! 44: what is done to the file: put, take, tread, centre, turn; past -/
/-- the same plate -/
def Ap (F G : Nat → Int) : Prop := ∀ k, k < 17 → G k = F k
theorem Ag.ap {F G : Nat → Int} (h : Ag F G) : Ap F G := fun k hk => h k (by omega)
section SamePlate
variable {F G : Nat → Int}
theorem Ap.n (h : Ap F G) : nC G = nC F := by unfold nC; rw [h 0 (by decide)]
theorem Ap.c (h : Ap F G) (hW : Wc F) : Wc G := by
  obtain ⟨h1, h2, h3⟩ := hW
  refine ⟨by rw [h 0 (by decide)]; exact h1, by rw [h 0 (by decide)]; exact h2, fun i hi => ?_⟩
  rw [h _ (by omega), h _ (by omega)]; exact h3 i hi
theorem Ap.x (h : Ap F G) (hW : Wc F) : cx G = cx F ∧ cy G = cy F := by
  obtain ⟨n1, n2, n3⟩ := hW.n
  constructor
  · funext i
    have := Nat.mod_lt i n1
    unfold cx; rw [h.n, h _ (by omega)]
  · funext i
    have := Nat.mod_lt i n1
    unfold cy; rw [h.n, h _ (by omega)]
theorem Ap.s (h : Ap F G) (hW : Wc F) : stp G = stp F ∧ ax G = ax F ∧ ay G = ay F ∧ px G = px F ∧ py G = py F := by
  have h1 : stp G = stp F := by funext e; unfold stp; rw [(h.x hW).1, (h.x hW).2]
  have h2 : ax G = ax F := by funext e; unfold ax; rw [(h.x hW).1, h1]
  have h3 : ay G = ay F := by funext e; unfold ay; rw [(h.x hW).2, h1]
  refine ⟨h1, h2, h3, ?_, ?_⟩
  · funext e k; unfold px; rw [(h.x hW).1, h2]
  · funext e k; unfold py; rw [(h.x hW).2, h3]
theorem Ap.p (h : Ap F G) (hW : Wp F) : Wp G := ⟨h.c hW.1, by rw [h.n]; exact hW.2.1, fun e => by rw [(h.s hW.1).1]; exact hW.2.2 e⟩
end SamePlate
/-- what was done -/
def Wh (F : Nat → Int) : Prop := 0 ≤ F 35 ∧ F 35 ≤ 20 ∧ ∀ j : Nat, (j : Int) < F 35 → (0 ≤ F (36 + 4 * j) ∧ F (36 + 4 * j) ≤ 4) ∧ (0 ≤ F (36 + 4 * j + 1) ∧ F (36 + 4 * j + 1) ≤ 6) ∧ (0 ≤ F (36 + 4 * j + 2) ∧ F (36 + 4 * j + 2) ≤ 1) ∧ 0 ≤ F (36 + 4 * j + 3) ∧ F (36 + 4 * j + 3) ≤ 3
/-- loads and lots -/
def Wx (F : Nat → Int) : Prop := 0 ≤ F 34 ∧ F 34 ≤ 65535 ∧ 0 ≤ F 116 ∧ F 116 ≤ 6 ∧ ∀ k, k < 18 → -999 ≤ F (117 + k) ∧ F (117 + k) ≤ 999
def WF (F : Nat → Int) : Prop := Wp F ∧ Wt F ∧ Wn F ∧ Wg F ∧ Wh F ∧ Wx F
noncomputable def bz (p : Prop) : Int := @ite _ p (Classical.propDecidable p) 1 0
theorem bz_t {p : Prop} (h : p) : bz p = 1 := if_pos h
theorem bz_f {p : Prop} (h : ¬ p) : bz p = 0 := if_neg h
theorem bz_i (p : Prop) : ibc p = i3 (bz p) := by
  by_cases h : p
  · rw [ibc_t h, bz_t h]
  · rw [ibc_f h, bz_f h]
theorem bz_01 (p : Prop) : 0 ≤ bz p ∧ bz p ≤ 1 := by
  by_cases h : p
  · rw [bz_t h]; decide
  · rw [bz_f h]; decide
noncomputable def rkF (F : Nat → Int) : Int := Classical.choose (rkI_ex (Wl F (ctF F)) (nf F * fc F) (fullS (nf F * fc F)))
theorem rkF_I (F : Nat → Int) : rkI (Wl F (ctF F)) (nf F * fc F) (fullS (nf F * fc F)) (rkF F) ∧ 0 ≤ rkF F ∧ rkF F ≤ 3 := Classical.choose_spec (rkI_ex (Wl F (ctF F)) (nf F * fc F) (fullS (nf F * fc F)))
noncomputable def ntd (F : Nat → Int) (w : Int) : Nat → Int := nt F w (bz (firmF F)) (rkF F)
theorem ntI_un {F : Nat → Int} {b r : Int} (h : ntI F b r) (w : Int) : nt F w b r = ntd F w := by
  have e1 : b = bz (firmF F) := by
    rcases h.1 with ⟨a, c⟩ | ⟨a, c⟩
    · rw [bz_t c]; exact a
    · rw [bz_f c]; exact a
  have e2 : r = rkF F := rkI_un h.2.1 (rkF_I F).1
  unfold ntd; rw [← e1, ← e2]
theorem nt_lo {F : Nat → Int} {w b r : Int} (h0 : 0 ≤ F 35) {k : Nat} (hk : k < 35) : nt F w b r k = F k := by
  unfold nt npt gpt
  repeat' split
  all_goals first | rfl | omega
theorem nt_hi {F : Nat → Int} {w b r : Int} (h0 : 0 ≤ F 35 ∧ F 35 ≤ 20) {k : Nat} (hk : 116 ≤ k) : nt F w b r k = F k := by
  unfold nt npt gpt
  repeat' split
  all_goals first | rfl | omega
theorem WF.note {F : Nat → Int} (h : WF F) {w : Int} (hw : 0 ≤ w ∧ w ≤ 4) : WF (ntd F w) := by
  obtain ⟨h1, h2, h3, h4, h5, h6⟩ := h
  have l : ∀ k, k < 35 → ntd F w k = F k := fun k hk => nt_lo h5.1 hk
  have u : ∀ k, 116 ≤ k → ntd F w k = F k := fun k hk => nt_hi ⟨h5.1, h5.2.1⟩ hk
  have g : Ag F (ntd F w) := fun k hk => l k (by omega)
  refine ⟨g.p h1, g.t h2, g.f h1.1 h3, ?_, ?_, ?_⟩
  · unfold Wg at h4 ⊢
    rw [l 17 (by decide)]
    refine ⟨h4.1, h4.2.1, fun i hi => ?_⟩
    rw [l _ (by omega), l _ (by omega)]; exact h4.2.2 i hi
  · obtain ⟨p1, p2, p3⟩ := h5
    have b := bz_01 (firmF F)
    have r := (rkF_I F).2
    have f := h3.2.1; have f0 := h3.1
    have e35 : ntd F w 35 = npt F + 1 := by unfold ntd nt; rw [if_pos rfl]
    have np : 0 ≤ npt F ∧ npt F ≤ 19 := by unfold npt; split <;> omega
    refine ⟨by omega, by omega, fun j hj => ?_⟩
    rw [e35] at hj
    by_cases c : (j : Int) = npt F
    · unfold ntd nt
      rw [if_neg (by omega), if_pos (by omega), if_neg (by omega), if_neg (by omega), if_pos (by omega), if_neg (by omega), if_neg (by omega), if_neg (by omega), if_pos (by omega), if_neg (by omega), if_neg (by omega), if_neg (by omega), if_neg (by omega), if_pos (by omega)]
      omega
    · have e : ∀ d, d < 4 → ntd F w (36 + 4 * j + d) = if F 35 = 20 then F (36 + 4 * (j + 1) + d) else F (36 + 4 * j + d) := by
        intro d hd
        unfold ntd nt
        rw [if_neg (by omega), if_neg (by omega), if_neg (by omega), if_neg (by omega), if_neg (by omega)]
        unfold gpt
        by_cases q : F 35 = 20
        · rw [if_pos (by unfold npt at *; rw [if_pos q] at *; omega), if_pos q]; congr 1; omega
        · rw [if_neg (by omega), if_neg q]
      have e0 := e 0 (by decide); have e1 := e 1 (by decide); have e2 := e 2 (by decide); have e3 := e 3 (by decide)
      rw [Nat.add_zero] at e0
      rw [e0, e1, e2, e3]
      by_cases q : F 35 = 20
      · simp only [if_pos q]
        exact p3 (j + 1) (by unfold npt at *; rw [if_pos q] at *; omega)
      · simp only [if_neg q]
        exact p3 j (by unfold npt at *; rw [if_neg q] at *; omega)
  · unfold Wx at h6 ⊢
    rw [l 34 (by decide), u 116 (by decide)]
    refine ⟨h6.1, h6.2.1, h6.2.2.1, h6.2.2.2.1, fun k hk => ?_⟩
    rw [u _ (by omega)]; exact h6.2.2.2.2 k hk
/-- the finger at a place -/
noncomputable def fgA (F : Nat → Int) (e k : Int) : Int := Classical.choose (fgI_ex F e k)
theorem fgA_I (F : Nat → Int) (e k : Int) : fgI F e k (fgA F e k) := Classical.choose_spec (fgI_ex F e k)
theorem fgA_b {F : Nat → Int} (h : Wg F) (e k : Int) : -1 ≤ fgA F e k ∧ fgA F e k ≤ 6 := by
  have h2 := h.2.1
  rcases fgA_I F e k with ⟨i, a, b, -⟩ | ⟨a, -⟩ <;> omega
section Ops
variable {E : gj_E} {SI : gj_I} {SJ : gj_J} {F : Nat → Int}
theorem sp_noted2 {Q : Int32 → gj_I → gj_J → Prop} {a1 a2 : Int32} (hR : RF F SI) (hF : WF F) (w its : Int) (ha1 : a1 = i3 w) (ha2 : a2 = i3 its) (h : ∀ SI' SJ', RF (ntd F w) SI' → FI LI2 SI SI' → FJ LJ1 SJ SJ' → Q (i3 its) SI' SJ') : DoI E 196 [(.ref 81), (.int a1), (.int a2)] SI SJ Q :=
  sp_noted hR hF.1 hF.2.1 hF.2.2.1 ⟨hF.2.2.2.2.1.1, hF.2.2.2.2.1.2.1⟩ w its ha1 ha2 (fun b r A B g1 g2 g3 g4 => h A B (by rw [← ntI_un g1]; exact g2) g3 g4)
noncomputable def pastA (F : Nat → Int) (k what : Int) : Int := if 0 ≤ k ∧ k < F 35 ∧ 0 ≤ what ∧ what ≤ 3 then F (36 + 4 * (F 35 - 1 - k) + what).toNat else -1
theorem sp_past {Q : Int32 → gj_I → gj_J → Prop} {a b : Int32} (hR : RF F SI) (hF : WF F) (k w : Int) (hk : -2147483648 ≤ k ∧ k < 2147483648) (hw : -2147483648 ≤ w ∧ w < 2147483648) (ha : a = i3 k) (hb : b = i3 w) (h : Q (i3 (pastA F k w)) SI SJ) : DoI E 197 [(.ref 81), (.int a), (.int b)] SI SJ Q := by
  subst ha; subst hb
  obtain ⟨-, -, -, -, ⟨p1, p2, -⟩, -⟩ := hF
  refine st_197 _ _ SI SJ ?_
  rw [hR 35 (by decide), i3_sub, i3_64 (by omega) (by omega), i3_64 (by omega) (by omega)]
  unfold pastA at h
  refine sp_in (by omega) (by omega) (by omega) (by omega) (by omega) (by omega) ⟨fun c => ?_, fun c => ?_⟩
  · rw [ib_0] at c
    rw [if_neg (by omega)] at h; exact h
  · rw [ib_0, Decidable.not_not] at c
    rw [i3_64 (by omega) (by omega)]
    refine sp_in (by omega) (by omega) (by omega) (by omega) (by omega) (by omega) ⟨fun d => ?_, fun d => ?_⟩
    · rw [ib_0] at d
      rw [if_neg (by omega)] at h; exact h
    · rw [ib_0, Decidable.not_not] at d
      rw [if_pos (by omega)] at h
      rw [hR 35 (by decide)]
      simp only [i3_sub, i3_mul, i3_add]
      rw [i3_in (by omega) (by omega), i3_n (by omega) (by omega), hR _ (by omega)]
      exact ⟨by omega, h⟩
end Ops
