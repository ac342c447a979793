/-! 99: bitCount -/
def bc1 (a : Int32) : Int32 := a - ((a.toUInt32 >>> ((i3 1).toUInt32 &&& Int32.toUInt32 31)).toInt32 &&& (i3 1431655765))
def bc2 (a : Int32) : Int32 := (a &&& (i3 858993459)) + ((a.toUInt32 >>> ((i3 2).toUInt32 &&& Int32.toUInt32 31)).toInt32 &&& (i3 858993459))
def bc3 (a : Int32) : Int32 := (a + (a.toUInt32 >>> ((i3 4).toUInt32 &&& Int32.toUInt32 31)).toInt32) &&& (i3 252645135)
def bc4 (a : Int32) : Int32 := a + (a.toUInt32 >>> ((i3 8).toUInt32 &&& Int32.toUInt32 31)).toInt32
def bc5 (a : Int32) : Int32 := (a + (a.toUInt32 >>> ((i3 16).toUInt32 &&& Int32.toUInt32 31)).toInt32) &&& (i3 63)
def bcN (n : Nat) : Int32 := bc5 (bc4 (bc3 (bc2 (bc1 (Int32.ofNat n)))))
def bcC (n : Nat) : Bool := decide (bcN n = Int32.ofNat (pct n))
def bcA : Nat → Nat → Bool
  | 0, n => bcC n
  | k + 1, n => bcA k n && bcA k (n + 2 ^ k)
theorem bcA_s : ∀ k n, bcA k n = true → ∀ s, n ≤ s → s < n + 2 ^ k → bcC s = true := by
  intro k
  induction k with
  | zero => intro n h s h1 h2; have : s = n := by rw [Nat.pow_zero] at h2; omega
            subst this; exact h
  | succ k ih =>
    intro n h s h1 h2
    have h' : (bcA k n && bcA k (n + 2 ^ k)) = true := h
    rw [Bool.and_eq_true] at h'
    have e : 2 ^ (k + 1) = 2 ^ k * 2 := Nat.pow_succ 2 k
    rcases Nat.lt_or_ge s (n + 2 ^ k) with q | q
    · exact ih n h'.1 s h1 q
    · exact ih _ h'.2 s q (by omega)
theorem bc_all : bcA 12 0 = true := by decide +kernel
theorem bc_pct {s : Nat} (h : s < 4096) : bcN s = i3 (pct s) := by
  have := bcA_s 12 0 bc_all s (Nat.zero_le _) (by omega)
  have e := of_decide_eq_true this
  rw [e, i3_ofNat]
theorem sp_bitCount {E : gj_E} {SI : gj_I} {SJ : gj_J} {Q : Int32 → gj_I → gj_J → Prop} {a : Int32} (s : Nat) (hs : s < 4096) (ha : a = i3 s) (h : Q (i3 (pct s)) SI SJ) : DoI E 284 [(.int a)] SI SJ Q := by
  subst ha
  refine st_284 _ SI SJ ?_
  rw [← bc_pct hs] at h
  rw [← i3_ofNat]
  exact h
