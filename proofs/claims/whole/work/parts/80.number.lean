/-! 80: numberOf, proof: the reference -/
theorem dot_crs (a b c : V3) : dot (crs a b) c = det3 a b c := by unfold det3 dot crs; dsimp only; grind
theorem det_sw1 (a b c : V3) : det3 a c b = -det3 a b c := by unfold det3; grind
theorem det_sw2 (a b c : V3) : det3 b a c = -det3 a b c := by unfold det3; grind
theorem det_eq1 (a b : V3) : det3 a b a = 0 := by unfold det3; grind
theorem det_eq2 (a b : V3) : det3 a b b = 0 := by unfold det3; grind
theorem mb_lt {s n k : Nat} (hs : s ≤ fullS n) (h : k < pct s) : mb s k < n := by
  have m := mb_s h
  rcases Nat.lt_or_ge (mb s k) n with q | q
  · exact q
  · have p1 : 1 ≤ 2 ^ n := Nat.one_le_two_pow
    have p2 : 2 ^ n ≤ 2 ^ (mb s k) := Nat.pow_le_pow_right (by decide) q
    have p3 : s < 2 ^ (mb s k) := by unfold fullS at hs; omega
    rw [Nat.testBit_lt_two_pow p3] at m
    exact absurd m.2.1 (by decide)
theorem mb_of {s n i : Nat} (h4 : pct s = 4) (hn : n ≤ 14) (hi : inS s n i) : cnt s i < 4 ∧ mb s (cnt s i) = i := by
  have c1 : cnt s (i + 1) = cnt s i + 1 := by show cnt s i + (if s.testBit i = true then 1 else 0) = _; rw [if_pos hi.2]
  have i1 := hi.1
  have m := cnt_m s (31 - (i + 1)) (i + 1)
  rw [show i + 1 + (31 - (i + 1)) = 31 by omega] at m
  have e : pcn 31 s = 4 := h4
  rw [cnt_pcn] at e
  have lt : cnt s i < 4 := by omega
  refine ⟨lt, ?_⟩
  have q := mb_s (s := s) (k := cnt s i) (by omega)
  exact cnt_un q.2.1 hi.2 q.2.2
theorem dt_nz {W : Nat → V3} {n s : Nat} (h4 : pct s = 4) (hn : n ≤ 14) (h : R3 W n s) : ∃ k, k < 4 ∧ dt W s k ≠ 0 := by
  obtain ⟨i, j, k, hij, hi, hj, hk, -, hd⟩ := h
  obtain ⟨a1, a2⟩ := mb_of h4 hn hi
  obtain ⟨b1, b2⟩ := mb_of h4 hn hj
  obtain ⟨d1, d2⟩ := mb_of h4 hn hk
  have ab := (cnt_lt hi.2 hj.2).mpr hij
  rw [dot_crs] at hd
  rw [← a2, ← b2, ← d2] at hd
  generalize cnt s i = a at *
  generalize cnt s j = b at *
  generalize cnt s k = c at *
  have nac : c ≠ a := fun z => hd (by rw [z]; exact det_eq1 _ _)
  have nbc : c ≠ b := fun z => hd (by rw [z]; exact det_eq2 _ _)
  have key : ∀ x y z t, t < 4 → (if t = 0 then 1 else 0) = x → (if t < 2 then 2 else 1) = y → (if t < 3 then 3 else 2) = z → det3 (W (mb s x)) (W (mb s y)) (W (mb s z)) ≠ 0 → ∃ k, k < 4 ∧ dt W s k ≠ 0 := by
    intro x y z t ht hx hy hz hne
    refine ⟨t, ht, ?_⟩
    unfold dt
    rw [hx, hy, hz]
    omega
  have e1 := det_sw1 (W (mb s a)) (W (mb s b)) (W (mb s c))
  have e2 := det_sw2 (W (mb s a)) (W (mb s c)) (W (mb s b))
  clear hi hj hk hij a2 b2 d2 h4 hn
  have ca : a = 0 ∨ a = 1 ∨ a = 2 := by omega
  rcases ca with rfl | rfl | rfl
  · have cb : b = 1 ∨ b = 2 ∨ b = 3 := by omega
    rcases cb with rfl | rfl | rfl
    · have cc : c = 2 ∨ c = 3 := by omega
      rcases cc with rfl | rfl
      · exact key 0 1 2 3 (by decide) rfl rfl rfl hd
      · exact key 0 1 3 2 (by decide) rfl rfl rfl hd
    · have cc : c = 1 ∨ c = 3 := by omega
      rcases cc with rfl | rfl
      · exact key 0 1 2 3 (by decide) rfl rfl rfl (by rw [e1]; omega)
      · exact key 0 2 3 1 (by decide) rfl rfl rfl hd
    · have cc : c = 1 ∨ c = 2 := by omega
      rcases cc with rfl | rfl
      · exact key 0 1 3 2 (by decide) rfl rfl rfl (by rw [e1]; omega)
      · exact key 0 2 3 1 (by decide) rfl rfl rfl (by rw [e1]; omega)
  · have cb : b = 2 ∨ b = 3 := by omega
    rcases cb with rfl | rfl
    · have cc : c = 0 ∨ c = 3 := by omega
      rcases cc with rfl | rfl
      · exact key 0 1 2 3 (by decide) rfl rfl rfl (by rw [e2, e1]; omega)
      · exact key 1 2 3 0 (by decide) rfl rfl rfl hd
    · have cc : c = 0 ∨ c = 2 := by omega
      rcases cc with rfl | rfl
      · exact key 0 1 3 2 (by decide) rfl rfl rfl (by rw [e2, e1]; omega)
      · exact key 1 2 3 0 (by decide) rfl rfl rfl (by rw [e1]; omega)
  · have cb : b = 3 := by omega
    subst cb
    · have cc : c = 0 ∨ c = 1 := by omega
      rcases cc with rfl | rfl
      · exact key 0 2 3 1 (by decide) rfl rfl rfl (by rw [e2, e1]; omega)
      · exact key 1 2 3 0 (by decide) rfl rfl rfl (by rw [e2, e1]; omega)
theorem dtG_s (W : Nat → V3) (s k : Nat) : dtG W s (k + 1) = Nat.gcd (dtG W s k) (dt W s k) := by
  unfold dtG; rw [forN_s, Nat.zero_add]
theorem dtG_nz {W : Nat → V3} {s : Nat} (h : ∃ k, k < 4 ∧ dt W s k ≠ 0) : dtG W s 4 ≠ 0 := by
  intro z
  obtain ⟨k, hk, hd⟩ := h
  rw [dtG_s, dtG_s, dtG_s, dtG_s] at z
  obtain ⟨z1, z2⟩ := Nat.gcd_eq_zero_iff.mp z
  obtain ⟨z3, z4⟩ := Nat.gcd_eq_zero_iff.mp z1
  obtain ⟨z5, z6⟩ := Nat.gcd_eq_zero_iff.mp z3
  obtain ⟨z7, z8⟩ := Nat.gcd_eq_zero_iff.mp z5
  have : k = 0 ∨ k = 1 ∨ k = 2 ∨ k = 3 := by omega
  rcases this with rfl | rfl | rfl | rfl
  · exact hd z8
  · exact hd z6
  · exact hd z4
  · exact hd z2
theorem dtG_b {W : Nat → V3} {s k : Nat} (h : ∀ k, k < 4 → dt W s k ≤ 30000000) (hk : k ≤ 4) : dtG W s k ≤ 30000000 := by
  induction k with
  | zero => exact Nat.zero_le _
  | succ k ih =>
    rw [dtG_s]
    have := h k (by omega)
    have i := ih (by omega)
    rcases Nat.eq_zero_or_pos (dt W s k) with q | q
    · rw [q, Nat.gcd_zero_right]; exact i
    · have := Nat.gcd_le_right (n := dt W s k) (dtG W s k) q; omega
section Number
variable {E : gj_E} {SI : gj_I} {SJ : gj_J} {F : Nat → Int} {W : Nat → V3} {O : Nat → Int} {n : Nat}
theorem dt_b {s k : Nat} (hB : Wb W n) (hs : s ≤ fullS n) (h4 : pct s = 4) (hk : k < 4) : dt W s k ≤ 30000000 := by
  unfold dt
  rw [det_dot, dot_com]
  refine dot_b hB (mb_lt hs ?_) (crs_b hB (mb_lt hs ?_) (mb_lt hs ?_))
  · rw [h4]; split <;> omega
  · rw [h4]; split <;> omega
  · rw [h4]; split <;> omega
theorem sp_numberOf {Q : Int64 → gj_I → gj_J → Prop} {a b : Int32} (hL : LW W O n SI SJ) (hn : n ≤ 14) (hB : Wb W n) (s t : Nat) (hs : s ≤ fullS n) (h4 : pct s = 4) (ht : t < 4) (hz : dtG W s 4 ≠ 0) (ha : a = i3 s) (hb : b = i3 t) (h : Q (i6 ((dt W s t / dtG W s 4 : Nat) : Int)) SI SJ) : DoL E 257 [(.ref 81), (.int a), (.int b)] SI SJ Q := by
  subst ha; subst hb
  have hfb := fullS_b hn
  have db : ∀ k, k < 4 → dt W s k ≤ 30000000 := fun k hk => dt_b hB hs h4 hk
  refine st_257 _ _ SI SJ ?_
  refine up_lp (α := Unit) (P := fun k _ A B => A = SI ∧ B = SJ) (G := fun k _ A B => GoL E mt_257 8 [some (.ref 81), some (.int (i3 s)), some (.int (i3 t)), some (.long (i6 (dtG W s k : Nat))), none, some (.long (i6 ((if t < k then dt W s t else 0 : Nat) : Int))), none, some (.int (i3 k)), none, none, none, none, none] A B Q) 4 ?_ ?_ 0 () SI SJ (by omega) ⟨rfl, rfl⟩
  · rintro _ A B ⟨rfl, rfl⟩
    have gb := dtG_b db (Nat.le_refl 4)
    have d1 := db t ht
    refine lp_257_8 _ _ _ _ _ A B ⟨fun _ => ⟨?_, ?_⟩, fun c => absurd (by decide) c⟩
    · rw [i6_eq0 (by omega) (by omega)]; omega
    · rw [if_pos ht, i6_divN (by omega) (by omega) (by omega)]; exact h
  · rintro k _ A B hk ⟨rfl, rfl⟩ ih
    have nx := ih () A B ⟨rfl, rfl⟩
    rw [dtG_s] at nx
    have gb := dtG_b db (show k ≤ 4 by omega)
    have d1 := db k hk
    have leaf : ∀ x y z : Nat, (if k = 0 then 1 else 0) = x → (if k < 2 then 2 else 1) = y → (if k < 3 then 3 else 2) = z → DoI E 256 [(.ref 81), (.int (i3 s)), (.int (i3 x))] A B (fun r1 SI2 SJ2 => DoI E 256 [(.ref 81), (.int (i3 s)), (.int (i3 y))] SI2 SJ2 (fun r3 SI4 SJ4 => DoI E 256 [(.ref 81), (.int (i3 s)), (.int (i3 z))] SI4 SJ4 (fun r5 SI6 SJ6 => vp_in r1 16 ∧ (vp_in r3 16 ∧ (vp_in r5 16 ∧ (DoL E 221 [(.long (SJ6 85 (gj_n r1))), (.long (SJ6 86 (gj_n r1))), (.long (SJ6 87 (gj_n r1))), (.long (SJ6 85 (gj_n r3))), (.long (SJ6 86 (gj_n r3))), (.long (SJ6 87 (gj_n r3))), (.long (SJ6 85 (gj_n r5))), (.long (SJ6 86 (gj_n r5))), (.long (SJ6 87 (gj_n r5)))] SI6 SJ6 (fun r7 SI8 SJ8 => DoL E 158 [(.long r7)] SI8 SJ8 (fun r9 SI10 SJ10 => DoL E 161 [(.long (i6 (dtG W s k : Nat))), (.long r9)] SI10 SJ10 (fun r11 SI12 SJ12 => (¬ i3 k = i3 t → GoL E mt_257 8 [some (.ref 81), some (.int (i3 s)), some (.int (i3 t)), some (.long r11), none, some (.long (i6 ((if t < k then dt W s t else 0 : Nat) : Int))), none, some (.int (i3 k + (i3 1))), none, none, none, none, none] SI12 SJ12 Q) ∧ (i3 k = i3 t → GoL E mt_257 8 [some (.ref 81), some (.int (i3 s)), some (.int (i3 t)), some (.long r11), none, some (.long r9), none, some (.int (i3 k + (i3 1))), none, none, none, none, none] SI12 SJ12 Q)))))))))) := by
      intro x y z hx hy hz
      have x4 : x < pct s := by rw [h4, ← hx]; split <;> omega
      have y4 : y < pct s := by rw [h4, ← hy]; split <;> omega
      have z4 : z < pct s := by rw [h4, ← hz]; split <;> omega
      have mx := mb_s x4; have my := mb_s y4; have mz := mb_s z4
      have lx := mb_lt hs x4; have ly := mb_lt hs y4; have lz := mb_lt hs z4
      have ed : (det3 (W (mb s x)) (W (mb s y)) (W (mb s z))).natAbs = dt W s k := by unfold dt; rw [hx, hy, hz]
      refine sp_memberOf s x (mb s x) (by omega) mx.1 mx.2.1 mx.2.2 rfl rfl (sp_memberOf s y (mb s y) (by omega) my.1 my.2.1 my.2.2 rfl rfl (sp_memberOf s z (mb s z) (by omega) mz.1 mz.2.1 mz.2.2 rfl rfl ?_))
      obtain ⟨u1, u2, u3, -⟩ := hL.2 _ lx
      obtain ⟨v1, v2, v3, -⟩ := hL.2 _ ly
      obtain ⟨w1, w2, w3, -⟩ := hL.2 _ lz
      generalize mb s x = p at *
      generalize mb s y = q at *
      generalize mb s z = o at *
      rw [i3_in (by omega) (by omega), i3_in (by omega) (by omega), i3_in (by omega) (by omega), i3_n (by omega) (by omega), i3_n (by omega) (by omega), i3_n (by omega) (by omega), show ((p : Nat) : Int).toNat = p by omega, show ((q : Nat) : Int).toNat = q by omega, show ((o : Nat) : Int).toNat = o by omega]
      refine ⟨by omega, by omega, by omega, sp_three (W p) (W q) (W o) u1 u2 u3 v1 v2 v3 w1 w2 w3 (sp_size (by omega) (by omega) ?_)⟩
      rw [ed]
      refine sp_common (by omega) (by omega) (by omega) (by omega) ?_
      have eg : Int.gcd ((dtG W s k : Nat) : Int) ((dt W s k : Nat) : Int) = Nat.gcd (dtG W s k) (dt W s k) := rfl
      rw [eg, i3_eq (by omega) (by omega) (by omega) (by omega), i3_add]
      refine ⟨fun c => ?_, fun c => ?_⟩
      · have e3 : (if t < k + 1 then dt W s t else 0) = (if t < k then dt W s t else 0) := by
          by_cases q2 : t < k
          · rw [if_pos q2, if_pos (by omega)]
          · rw [if_neg q2, if_neg (by omega)]
        rw [e3] at nx; exact nx
      · have e4 : k = t := by omega
        rw [if_pos (by omega), ← e4] at nx
        rw [← e4]; exact nx
    refine lp_257_8 _ _ _ _ _ A B ⟨fun c => ?_, fun _ => ?_⟩
    · rw [i3_le (by omega) (by omega) (by omega) (by omega)] at c; omega
    · have k4 : k = 0 ∨ k = 1 ∨ k = 2 ∨ k = 3 := by omega
      rcases k4 with rfl | rfl | rfl | rfl
      · have lf := leaf 1 2 3 rfl rfl rfl
        refine ⟨fun c => absurd rfl c, fun _ => lf.mono (fun r A B q => ⟨fun c => absurd c (by decide), fun _ => q.mono (fun r A B q => ⟨fun c => absurd c (by decide), fun _ => q⟩)⟩)⟩
      · have lf := leaf 0 2 3 rfl rfl rfl
        refine ⟨fun _ => lf.mono (fun r A B q => ⟨fun c => absurd c (by decide), fun _ => q.mono (fun r A B q => ⟨fun c => absurd c (by decide), fun _ => q⟩)⟩), fun c => absurd c (by decide)⟩
      · have lf := leaf 0 1 3 rfl rfl rfl
        refine ⟨fun _ => lf.mono (fun r A B q => ⟨fun _ => q.mono (fun r A B q => ⟨fun c => absurd c (by decide), fun _ => q⟩), fun c => absurd (by decide) c⟩), fun c => absurd c (by decide)⟩
      · have lf := leaf 0 1 2 rfl rfl rfl
        refine ⟨fun _ => lf.mono (fun r A B q => ⟨fun _ => q.mono (fun r A B q => ⟨fun _ => q, fun c => absurd (by decide) c⟩), fun c => absurd (by decide) c⟩), fun c => absurd c (by decide)⟩
theorem prS_s (hn : n ≤ 14) : prS W n = 0 ∨ (prS W n ≤ fullS n ∧ firm W n (prS W n)) := by
  unfold prS
  cases hp : prA W n with
  | none => exact Or.inl rfl
  | some s =>
    obtain ⟨m, -, -, hm, -⟩ := otn_f _ _ hp
    have := prM_s hm
    exact Or.inr ⟨this.1, this.2.2⟩
theorem sp_proof {Q : Int64 → gj_I → gj_J → Prop} {a : Int32} (hR : RF F SI) (hW : Wp F) (hT : Wt F) (hN : Wn F) (w : Int) (wr : -2147483648 ≤ w ∧ w < 2147483648) (ha : a = i3 w) (h : ∀ SI' SJ', FI LI1 SI SI' → FJ LJ1 SJ SJ' → Q (i6 (proofA F w)) SI' SJ') : DoL E 258 [(.ref 81), (.int a)] SI SJ Q := by
  subst ha
  have nb := nw_b hN
  have hB := Wl_b hW hT (hN.ok hW.1)
  have hfb := fullS_b (n := nf F * fc F) (by omega)
  refine st_258 _ SI SJ ?_
  rw [i3_64 (by omega) (by omega)]
  refine sp_in (by omega) (by omega) (by omega) (by omega) (by omega) (by omega) ⟨fun z => ?_, fun z => ?_⟩
  · rw [ib_0] at z
    have e : proofA F w = -9000000000000000000 := ic_f (fun y => z y.1)
    rw [e] at h; exact h SI SJ FI.rf FJ.rf
  · rw [ib_0, Decidable.not_not] at z
    refine sp_isFirmNow hR hW hT hN (fun A B f1 f2 hL => ⟨fun y => ?_, fun y => ?_⟩)
    · rw [ibc_0, Classical.not_not] at y
      have e : proofA F w = (if w = 0 then (pct (prS (WW F) (nW F)) : Int) else if w = 1 then (prS (WW F) (nW F) : Int) else if pct (prS (WW F) (nW F)) = 4 then ((dt (WW F) (prS (WW F) (nW F)) (w - 2).toNat / dtG (WW F) (prS (WW F) (nW F)) 4 : Nat) : Int) else -2) := ic_t ⟨z, y⟩
      rw [e] at h
      refine sp_proofSet hL (by omega) hB (fun B2 f3 => ?_)
      have hL2 := hL.f f3
      have hh := h A B2 f1 (f2.tr (f3.le LPx_J1))
      have ps := prS_s (W := Wl F (ctF F)) (n := nf F * fc F) (by omega)
      have pf : prS (Wl F (ctF F)) (nf F * fc F) ≤ fullS (nf F * fc F) := by rcases ps with q | q <;> omega
      unfold WW nW at hh
      generalize prS (Wl F (ctF F)) (nf F * fc F) = s at *
      have e31 : pct s ≤ 31 := pcn_le 31 s
      rw [i3_le (by omega) (by omega) (by omega) (by omega), i3_eq0 (by omega) (by omega)]
      refine ⟨fun c => sp_sizeOf s (by omega) rfl ?_, fun c => ⟨fun d => ?_, fun d => sp_sizeOf s (by omega) rfl ?_⟩⟩
      · rw [i3_eq (by omega) (by omega) (by omega) (by omega)]
        rw [if_neg (by omega), if_neg (by omega)] at hh
        refine ⟨fun d => ?_, fun d => ?_⟩
        · rw [if_neg (by omega)] at hh; exact hh
        · rw [if_pos (by omega)] at hh
          have s4 : pct s = 4 := by omega
          rcases ps with q | q
          · rw [q] at s4; exact absurd s4 (by decide)
          · refine sp_numberOf hL2 (by omega) hB s (w - 2).toNat pf s4 (by omega) (dtG_nz (dt_nz s4 (by omega) q.2.1)) rfl (by rw [i3_sub]; exact i3_c (by omega)) hh
      · rw [if_neg d, if_pos (by omega)] at hh
        rw [i3_64 (by omega) (by omega)]; exact hh
      · rw [if_pos d] at hh
        rw [i3_64 (by omega) (by omega)]; exact hh
    · rw [ibc_0] at y
      have e : proofA F w = -9000000000000000000 := ic_f (fun z => y z.2)
      have hh := h A B f1 f2
      rw [e] at hh; exact hh
end Number
