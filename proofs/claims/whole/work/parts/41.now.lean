/-! 41: bounds of wrenches; isFirmNow, wrenchesOf -/
theorem mul_btw {k s a : Int} (h0 : 0 ≤ k) (h1 : k ≤ s) : (0 ≤ a → 0 ≤ k * a ∧ k * a ≤ s * a) ∧ (a ≤ 0 → s * a ≤ k * a ∧ k * a ≤ 0) := by
  constructor
  · intro ha
    exact ⟨Int.mul_nonneg h0 ha, Int.mul_le_mul_of_nonneg_right h1 ha⟩
  · intro ha
    exact ⟨Int.mul_le_mul_of_nonpos_right h1 ha, Int.mul_nonpos_of_nonneg_of_nonpos h0 ha⟩
theorem px_b {F : Nat → Int} (hW : Wp F) (e : Nat) {k : Int} (h0 : 0 ≤ k) (h1 : k ≤ stp F e) : 0 ≤ px F e k ∧ px F e k ≤ 9 ∧ 0 ≤ py F e k ∧ py F e k ≤ 9 := by
  have b1 := hW.1.b e; have b2 := hW.1.b (e + 1)
  have d1 : ((stp F e : Nat) : Int) ∣ (cx F (e + 1) - cx F e) := Int.gcd_dvd_left ..
  have d2 : ((stp F e : Nat) : Int) ∣ (cy F (e + 1) - cy F e) := Int.gcd_dvd_right ..
  have e1 : ax F e * (stp F e : Int) = cx F (e + 1) - cx F e := Int.tdiv_mul_cancel d1
  have e2 : ay F e * (stp F e : Int) = cy F (e + 1) - cy F e := Int.tdiv_mul_cancel d2
  rw [Int.mul_comm] at e1 e2
  have m1 := mul_btw (a := ax F e) h0 h1
  have m2 := mul_btw (a := ay F e) h0 h1
  rw [e1] at m1
  rw [e2] at m2
  unfold px py
  rcases Int.le_total 0 (ax F e) with p | p
  · have := m1.1 p
    rcases Int.le_total 0 (ay F e) with q | q
    · have := m2.1 q; omega
    · have := m2.2 q; omega
  · have := m1.2 p
    rcases Int.le_total 0 (ay F e) with q | q
    · have := m2.1 q; omega
    · have := m2.2 q; omega
/-- a contact is at a place (or at an end of the edge) -/
def ctOk (F : Nat → Int) (c : Nat × Int) : Prop := c.1 < nC F ∧ 0 ≤ c.2 ∧ c.2 ≤ stp F c.1
theorem wf_b {F : Nat → Int} (hW : Wp F) (hT : Wt F) {c : Nat × Int} (hc : ctOk F c) {s : Int} (hs : s = 1 ∨ s = -1) : (wf F c.1 c.2 (F 30) (F 31) s).1.natAbs ≤ 60 ∧ (wf F c.1 c.2 (F 30) (F 31) s).2.1.natAbs ≤ 60 ∧ (wf F c.1 c.2 (F 30) (F 31) s).2.2.natAbs ≤ 1200 := by
  obtain ⟨t1, t2, t3, t4, t5, t6, t7, t8⟩ := hT
  have b2 := hW.1.a c.1
  obtain ⟨f1, f2⟩ := force_b (a := ax F c.1) (b := ay F c.1) (m := F 30) (q := F 31) (s := s) (by omega) (by omega) ⟨t1, t2⟩ ⟨t3, t4⟩ hs
  have p := px_b hW c.1 hc.2.1 hc.2.2
  obtain ⟨l1, l2⟩ := lo_b (-(F 31) * ay F c.1 + s * (F 30 * ax F c.1)) (F 31 * ax F c.1 + s * (F 30 * ay F c.1))
  unfold wf wr
  dsimp only
  have m1 := mul_b (a := px F c.1 c.2 - F 32) (b := loy (-(F 31) * ay F c.1 + s * (F 30 * ax F c.1)) (F 31 * ax F c.1 + s * (F 30 * ay F c.1))) (m := 9) (n := 60) (by omega) (by omega)
  have m2 := mul_b (a := py F c.1 c.2 - F 33) (b := lox (-(F 31) * ay F c.1 + s * (F 30 * ax F c.1)) (F 31 * ax F c.1 + s * (F 30 * ay F c.1))) (m := 9) (n := 60) (by omega) (by omega)
  omega
theorem Wl_b {F : Nat → Int} {ct : Nat → Nat × Int} {c : Nat} (hW : Wp F) (hT : Wt F) (hc : ∀ i, i < c → ctOk F (ct i)) : Wb (Wl F ct) (c * fc F) := by
  intro j hj
  have hf := fc_b F
  have : j / fc F < c := (Nat.div_lt_iff_lt_mul (by omega)).mpr hj
  unfold Wl
  exact wf_b hW hT (hc _ this) (by split <;> simp)
theorem Wn.ok {F : Nat → Int} (h : Wn F) (hW : Wc F) : ∀ i, i < nf F → ctOk F (ctF F i) := by
  intro i hi
  have h1 := h.c hW hi
  obtain ⟨-, -, h3⟩ := h
  unfold nf at hi
  have h4 := h3 i (by omega)
  refine ⟨h1.1, h1.2.1, ?_⟩
  unfold ctF; dsimp only; omega
theorem nw_b {F : Nat → Int} (h : Wn F) : nf F * fc F ≤ 12 := by
  have h1 := fc_b F
  have h2 : nf F ≤ 6 := by have := h.2.1; unfold nf; omega
  calc nf F * fc F ≤ 6 * 2 := Nat.mul_le_mul h2 h1.2
    _ = 12 := rfl
/-- all wrenches -/
def fullS (n : Nat) : Nat := 2 ^ n - 1
theorem fullS_b {n : Nat} (h : n ≤ 14) : fullS n < 16384 := by
  have : 2 ^ n ≤ 2 ^ 14 := Nat.pow_le_pow_right (by decide) h
  have h2 : 1 ≤ 2 ^ n := Nat.one_le_two_pow
  unfold fullS; omega
theorem inS_full {n i : Nat} : inS (fullS n) n i ↔ i < n := by
  unfold inS fullS
  rw [Nat.testBit_two_pow_sub_one]
  simp
/-- firm with all its wrenches -/
def firmF (F : Nat → Int) : Prop := firm (Wl F (ctF F)) (nf F * fc F) (fullS (nf F * fc F))
def LJ2 (o k : Nat) : Prop := LJ1 o k
section Now
variable {E : gj_E} {SI : gj_I} {SJ : gj_J} {F : Nat → Int} {W : Nat → V3} {O : Nat → Int} {n : Nat}
theorem LPx_J1 : ∀ o k, LPx o k → LJ1 o k := fun o k h => Or.inr (Or.inr (Or.inr h))
theorem sp_isFirmNow {Q : Int32 → gj_I → gj_J → Prop} (hR : RF F SI) (hW : Wp F) (hT : Wt F) (hN : Wn F) (h : ∀ SI' SJ', FI LI1 SI SI' → FJ LJ1 SJ SJ' → LW (Wl F (ctF F)) (fun j => ((j / fc F : Nat) : Int)) (nf F * fc F) SI' SJ' → Q (ibc (firmF F)) SI' SJ') : DoI E 195 [(.ref 81)] SI SJ Q := by
  have hb := nw_b hN
  have hB := Wl_b hW hT (hN.ok hW.1)
  refine st_195 SI SJ (sp_lays hR hW hT hN (fun A B f1 f2 hL => ?_))
  refine sp_all hL.1 (by omega) (sp_isFirm hL (by omega) hB (fullS (nf F * fc F)) (by have := fullS_b (n := nf F * fc F) (by omega); omega) rfl (fun B2 f3 => ⟨ibc_01, ?_⟩))
  exact h A B2 f1 (f2.tr (f3.le LPx_J1)) (hL.f f3)
theorem sp_wrenchesOf {Q : Int32 → gj_I → gj_J → Prop} {a : Int32} (hL : LW W O n SI SJ) (hn : n ≤ 14) (hO : ∀ j, j < n → 0 ≤ O j ∧ O j < 31) (s : Nat) (hs : s < 2147483648) (ha : a = i3 s) (t : Nat) (ht : t < 2 ^ n) (hbit : ∀ j, j < n → t.testBit j = s.testBit (O j).toNat) (h : Q (i3 t) SI SJ) : DoI E 186 [(.ref 81), (.int a)] SI SJ Q := by
  subst ha
  refine st_186 _ SI SJ ?_
  have hp : 2 ^ n ≤ 2 ^ 14 := Nat.pow_le_pow_right (by decide) hn
  have key : ∀ (d i : Nat), i + d = n → GoI E mt_186 4 [some (.ref 81), some (.int (i3 s)), some (.int (i3 ((t % 2 ^ i : Nat) : Int))), some (.int (i3 i))] SI SJ Q := by
    intro d
    induction d with
    | zero =>
      intro i hi
      have hin : i = n := by omega
      refine lp_186_4 _ _ _ SI SJ ⟨fun _ => ?_, fun c => ?_⟩
      · rw [hin, Nat.mod_eq_of_lt ht]; exact h
      · rw [hL.1, i3_le (by omega) (by omega) (by omega) (by omega)] at c; omega
    | succ d ih =>
      intro i hi
      obtain ⟨-, -, -, hw⟩ := hL.2 i (by omega)
      have ho := hO i (by omega)
      have hbi := hbit i (by omega)
      refine lp_186_4 _ _ _ SI SJ ⟨fun c => ?_, fun c => ?_⟩
      · rw [hL.1, i3_le (by omega) (by omega) (by omega) (by omega)] at c; omega
      · rw [i3_in (by omega) (by omega), i3_n (by omega) (by omega), show ((i : Int)).toNat = i by omega, hw]
        refine ⟨by omega, ?_⟩
        obtain ⟨m, hm⟩ : ∃ m : Nat, O i = m := ⟨(O i).toNat, by omega⟩
        rw [hm] at hbi ⊢
        rw [show ((m : Int)).toNat = m by omega] at hbi
        refine sp_has hs (by omega) ?_
        rw [ib_0, ← hbi, i3_add, show (i : Int) + 1 = ((i + 1 : Nat) : Int) by omega]
        have hstep : t % 2 ^ (i + 1) = t % 2 ^ i + 2 ^ i * (t / 2 ^ i % 2) := Nat.mod_pow_succ
        have hlt : t % 2 ^ i < 2 ^ i := Nat.mod_lt _ (Nat.two_pow_pos i)
        refine ⟨fun q => ?_, fun q => ?_⟩
        · have : t % 2 ^ (i + 1) = t % 2 ^ i := by
            rw [hstep, bit_ib, if_neg q]; omega
          rw [← this]
          exact ih (i + 1) (by omega)
        · rw [Decidable.not_not] at q
          have h1 : t % 2 ^ (i + 1) = t % 2 ^ i + 2 ^ i := by
            rw [hstep, bit_ib, if_pos q]; omega
          have h2 : i3 ((t % 2 ^ i : Nat) : Int) ||| (i3 1 <<< (i3 i &&& 31)) = i3 ((t % 2 ^ (i + 1) : Nat) : Int) := by
            rw [i3_shl (by omega)]
            have h3 := Nat.two_pow_add_eq_or_of_lt hlt 1
            rw [Nat.mul_one] at h3
            rw [h1, Nat.add_comm, h3, ← i3_ofNat, ← i3_ofNat, ← i3_ofNat, Nat.or_comm]
            apply Int32.toBitVec_inj.mp
            rw [Int32.toBitVec_or]
            show BitVec.ofNat 32 _ ||| BitVec.ofNat 32 _ = BitVec.ofNat 32 _
            rw [BitVec.ofNat_or]
          rw [h2]
          exact ih (i + 1) (by omega)
  have := key n 0 (by omega)
  rw [show t % 2 ^ 0 = 0 by simp [Nat.mod_one]] at this
  exact this
end Now
