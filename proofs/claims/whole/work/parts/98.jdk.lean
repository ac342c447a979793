/-! 98: signum, bitCount, compare -/
theorem l_shr63 (a : Int64) : (a >>> ((i3 63).toInt64 &&& 63)).toInt = a.toInt >>> 63 := by
  show (a.toBitVec.sshiftRight (((i3 63).toInt64 &&& 63).toBitVec.smod 64).toNat).toInt = _
  rw [show (((i3 63).toInt64 &&& 63).toBitVec.smod 64).toNat = 63 by decide, BitVec.toInt_sshiftRight]
  rfl
theorem l_ushr63 (x : Int64) : (x.toUInt64 >>> ((i3 63).toInt64.toUInt64 &&& Int64.toUInt64 63)).toInt64.toBitVec.toNat = x.toBitVec.toNat / 2 ^ 63 := by
  have e : (x.toUInt64 >>> ((i3 63).toInt64.toUInt64 &&& Int64.toUInt64 63)).toInt64.toBitVec = x.toBitVec >>> 63 := by
    have hs : (((i3 63).toInt64.toUInt64 &&& Int64.toUInt64 63).toBitVec % 64).toNat = 63 := by decide
    rw [← hs]
    exact UInt64.toBitVec_shiftRight _ _
  rw [e, BitVec.toNat_ushiftRight, Nat.shiftRight_eq_div_pow]
theorem i6_nat {w : Int} : (i6 w).toBitVec.toNat = (w % 18446744073709551616).toNat := by
  rw [Int64.toBitVec_ofInt, BitVec.toNat_ofInt]; rfl
theorem i3_nat2 {w : Int} : (i3 w).toBitVec.toNat = (w % 4294967296).toNat := by
  rw [Int32.toBitVec_ofInt, BitVec.toNat_ofInt]; rfl
theorem i6_sgn {z : Int} (h1 : -9223372036854775808 < z) (h2 : z < 9223372036854775808) : (((i6 z >>> ((i3 63).toInt64 &&& 63)) ||| ((-(i6 z)).toUInt64 >>> ((i3 63).toInt64.toUInt64 &&& Int64.toUInt64 63)).toInt64)).toInt32 = i3 z.sign := by
  have a : i6 z >>> ((i3 63).toInt64 &&& 63) = i6 (if z < 0 then -1 else 0) := by
    rw [← Int64.toInt_inj, l_shr63, i6_t (by omega) (by omega), Int.shiftRight_eq_div_pow]
    split
    · rw [i6_t (by omega) (by omega)]; show z / 9223372036854775808 = -1; omega
    · rw [i6_t (by omega) (by omega)]; show z / 9223372036854775808 = 0; omega
  have b : ((-(i6 z)).toUInt64 >>> ((i3 63).toInt64.toUInt64 &&& Int64.toUInt64 63)).toInt64 = i6 (if 0 < z then 1 else 0) := by
    apply Int64.toBitVec_inj.mp
    apply BitVec.eq_of_toNat_eq
    rw [l_ushr63, i6_neg, i6_nat, i6_nat]
    split
    · show (-z % 18446744073709551616).toNat / 9223372036854775808 = 1; omega
    · show (-z % 18446744073709551616).toNat / 9223372036854775808 = 0; omega
  rw [a, b]
  rcases Int.lt_trichotomy z 0 with q | q | q
  · rw [if_pos q, if_neg (by omega), Int.sign_eq_neg_one_of_neg q]; decide
  · subst q; decide
  · rw [if_neg (by omega), if_pos q, Int.sign_eq_one_of_pos q]; decide
theorem i3_shr31 (a : Int32) : (a >>> ((i3 31) &&& 31)).toInt = a.toInt >>> 31 := pk_shr a _ 31 (by decide)
theorem i3_sgn {z : Int} (h1 : -2147483648 < z) (h2 : z < 2147483648) : (i3 z >>> ((i3 31) &&& 31)) ||| ((-(i3 z)).toUInt32 >>> ((i3 31).toUInt32 &&& Int32.toUInt32 31)).toInt32 = i3 z.sign := by
  have a : i3 z >>> ((i3 31) &&& 31) = i3 (if z < 0 then -1 else 0) := by
    rw [← Int32.toInt_inj, i3_shr31, i3_t (by omega) (by omega), Int.shiftRight_eq_div_pow]
    split
    · rw [i3_t (by omega) (by omega)]; show z / 2147483648 = -1; omega
    · rw [i3_t (by omega) (by omega)]; show z / 2147483648 = 0; omega
  have b : ((-(i3 z)).toUInt32 >>> ((i3 31).toUInt32 &&& Int32.toUInt32 31)).toInt32 = i3 (if 0 < z then 1 else 0) := by
    apply Int32.toBitVec_inj.mp
    apply BitVec.eq_of_toNat_eq
    rw [pk_ushr _ (i3 31) 31 (by decide), i3_neg, i3_nat2, i3_nat2]
    split
    · show (-z % 4294967296).toNat / 2147483648 = 1; omega
    · show (-z % 4294967296).toNat / 2147483648 = 0; omega
  rw [a, b]
  rcases Int.lt_trichotomy z 0 with q | q | q
  · rw [if_pos q, if_neg (by omega), Int.sign_eq_neg_one_of_neg q]; decide
  · subst q; decide
  · rw [if_neg (by omega), if_pos q, Int.sign_eq_one_of_pos q]; decide
section Jdk
variable {E : gj_E} {SI : gj_I} {SJ : gj_J}
theorem sp_lsignum {Q : Int32 → gj_I → gj_J → Prop} {a : Int64} (z : Int) (h1 : -9223372036854775808 < z) (h2 : z < 9223372036854775808) (ha : a = i6 z) (h : Q (i3 z.sign) SI SJ) : DoI E 287 [(.long a)] SI SJ Q := by
  subst ha
  refine st_287 _ SI SJ ?_
  rw [i6_sgn h1 h2]; exact h
theorem sp_isignum {Q : Int32 → gj_I → gj_J → Prop} {a : Int32} (z : Int) (h1 : -2147483648 < z) (h2 : z < 2147483648) (ha : a = i3 z) (h : Q (i3 z.sign) SI SJ) : DoI E 285 [(.int a)] SI SJ Q := by
  subst ha
  refine st_285 _ SI SJ ?_
  rw [i3_sgn h1 h2]; exact h
theorem sp_lcompare {Q : Int32 → gj_I → gj_J → Prop} {a b : Int64} (x y : Int) (h1 : -9223372036854775808 ≤ x) (h2 : x < 9223372036854775808) (h3 : -9223372036854775808 ≤ y) (h4 : y < 9223372036854775808) (ha : a = i6 x) (hb : b = i6 y) (h : Q (i3 (if x < y then -1 else if x = y then 0 else 1)) SI SJ) : DoI E 286 [(.long a), (.long b)] SI SJ Q := by
  subst ha; subst hb
  refine st_286 _ _ SI SJ ?_
  rw [ge_iff_le, i6_le (by omega) (by omega) (by omega) (by omega), i6_eq (by omega) (by omega) (by omega) (by omega)]
  refine ⟨fun c => ⟨fun d => ?_, fun d => ?_⟩, fun c => ?_⟩
  · rw [if_neg (by omega), if_neg d] at h; exact h
  · rw [if_neg (by omega), if_pos d] at h; exact h
  · rw [if_pos (by omega)] at h; exact h
end Jdk
