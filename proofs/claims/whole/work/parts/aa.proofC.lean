/-! aa: proof of the class: fewest, spanWithout, multiple -/
theorem cnt_le (s : Nat) : ∀ j, cnt s j ≤ j := by
  intro j
  induction j with
  | zero => exact Nat.le_refl _
  | succ j ih => show cnt s j + (if s.testBit j = true then 1 else 0) ≤ j + 1; split <;> omega
theorem cnt_end {s n : Nat} (hs : s < 2 ^ n) : ∀ d, cnt s (n + d) = cnt s n := by
  intro d
  induction d with
  | zero => rfl
  | succ d ih =>
    show cnt s (n + d) + (if s.testBit (n + d) = true then 1 else 0) = cnt s n
    have p2 : 2 ^ n ≤ 2 ^ (n + d) := Nat.pow_le_pow_right (by decide) (by omega)
    rw [Nat.testBit_lt_two_pow (by omega), if_neg (by decide)]; omega
theorem pct_n {s n : Nat} (hs : s < 2 ^ n) (hn : n ≤ 31) : pct s = cnt s n := by
  have e := cnt_end hs (31 - n)
  rw [show n + (31 - n) = 31 by omega, ← cnt_pcn] at e
  exact e
theorem otn_hit {f : Nat → Option Nat} {s m : Nat} (hm : f m = some s) : ∀ (d i : Nat), i ≤ m → m < i + d → (∀ k, i ≤ k → k < m → f k = none) → forN (fun j o => otn o (f j)) i d none = some s := by
  intro d
  induction d with
  | zero => intro i h1 h2; omega
  | succ d ih =>
    intro i h1 h2 h3
    show forN (fun j o => otn o (f j)) (i + 1) d (otn none (f i)) = some s
    by_cases e : i = m
    · subst e
      show forN (fun j o => otn o (f j)) (i + 1) d (f i) = some s
      rw [hm]; exact otn_stay _ _
    · show forN (fun j o => otn o (f j)) (i + 1) d (f i) = some s
      rw [h3 i (by omega) (by omega)]
      exact ih (i + 1) (by omega) (by omega) (fun k k1 k2 => h3 k (by omega) k2)
theorem prM_ne {W : Nat → V3} {n s : Nat} (hs : s ≤ fullS n) (hf : firm W n s) : prM W n (pct s) ≠ none := by
  intro z
  exact fst_none (g := id) _ _ z s (by omega) (by omega) ⟨rfl, hf⟩
/-- what the t-th last of the first r is, the j-th left out -/
noncomputable def kI (s j r t : Nat) : Int := if t ≤ r then ((mb s (if r - t < j then r - t else r - t + 1) : Nat) : Int) else -1
theorem kI_up (s j r t : Nat) : kI s j (r + 1) (t + 1) = kI s j r t := by
  unfold kI
  rw [show r + 1 - (t + 1) = r - t by omega]
  by_cases q : t ≤ r
  · rw [if_pos q, if_pos (by omega)]
  · rw [if_neg q, if_neg (by omega)]
section ProofC
variable {E : gj_E} {SI : gj_I} {SJ : gj_J} {F : Nat → Int} {W : Nat → V3} {O : Nat → Int} {n : Nat}
theorem sp_fewest {Q : Int32 → gj_I → gj_J → Prop} (hL : SI 42 9 = i3 n) (hC : PB42 W n SI SJ) (hn : n ≤ 12) (hB : Wb W n) (hf : firm W n (fullS n)) (h : Q (i3 (prS W n)) SI SJ) : DoI E 11 [(.ref 42)] SI SJ Q := by
  obtain ⟨s0, a1, a2, a3, a4⟩ := six (by omega) hf
  have m0 := prM_ne a1 a4
  have h2 : 1 ≤ 2 ^ n := Nat.one_le_two_pow
  have h12 : 2 ^ n ≤ 2 ^ 12 := Nat.pow_le_pow_right (by decide) hn
  have ef : fullS n = 2 ^ n - 1 := rfl
  have a5 : pct s0 ≤ n := by rw [pct_n (n := n) (by omega) (by omega)]; exact cnt_le _ _
  generalize pct s0 = k0 at *
  have inner : ∀ (m : Nat), m ≤ 6 → (∀ s, prM W n m = some s → Q (i3 (s : Nat)) SI SJ) → (prM W n m = none → GoI E mt_11 2 [some (.ref 42), some (.int (i3 ((m + 1 : Nat) : Int))), none] SI SJ Q) → GoI E mt_11 10 [some (.ref 42), some (.int (i3 (m : Nat))), some (.int (i3 0))] SI SJ Q := by
    intro m hm hso hno
    refine up_lp (α := Unit) (P := fun i _ A B => A = SI ∧ B = SJ ∧ prM W n m = fst (fun s => pct s = m ∧ firm W n s) some none i (fullS n + 1 - i)) (G := fun i _ A B => GoI E mt_11 10 [some (.ref 42), some (.int (i3 (m : Nat))), some (.int (i3 i))] A B Q) (fullS n + 1) ?_ ?_ 0 () SI SJ (by omega) ⟨rfl, rfl, rfl⟩
    · rintro _ A B ⟨rfl, rfl, e⟩
      rw [Nat.sub_self] at e
      refine lp_11_10 _ _ A B (sp_everyone42 hL (by omega) ⟨fun _ => ?_, fun c => ?_⟩)
      · rw [i3_add]; exact hno e
      · rw [i3_lt (by omega) (by omega) (by omega) (by omega)] at c; omega
    · rintro i _ A B hi ⟨rfl, rfl, e⟩ ih
      have e31 : pct i ≤ 31 := pcn_le 31 i
      rw [show fullS n + 1 - i = (fullS n + 1 - (i + 1)) + 1 by omega] at e
      have nx : ¬ (pct i = m ∧ firm W n i) → GoI E mt_11 10 [some (.ref 42), some (.int (i3 (m : Nat))), some (.int (i3 ((i : Int) + 1)))] A B Q := by
        intro hne
        exact ih () A B ⟨rfl, rfl, by rw [e, fst_f hne]⟩
      refine lp_11_10 _ _ A B (sp_everyone42 hL (by omega) ⟨fun c => ?_, fun c => sp_bitCount i (by omega) rfl ?_⟩)
      · rw [i3_lt (by omega) (by omega) (by omega) (by omega)] at c; omega
      · rw [i3_eq (by omega) (by omega) (by omega) (by omega), i3_add]
        refine ⟨fun d => nx (fun z => d (by omega)), fun d => sp_spans42 hL hC (by omega) hB i (by omega) rfl ⟨fun g => ?_, fun g => ?_⟩⟩
        · rw [ibc_0] at g; exact nx (fun z => g z.2)
        · rw [ibc_0, Classical.not_not] at g
          exact hso i (by rw [e, fst_t ⟨by omega, g⟩])
  have outer : ∀ (d m : Nat), 4 ≤ m → m + d = 7 → m ≤ k0 → (∀ k, 4 ≤ k → k < m → prM W n k = none) → GoI E mt_11 2 [some (.ref 42), some (.int (i3 (m : Nat))), none] SI SJ Q := by
    intro d
    induction d with
    | zero => intro m h1 h2 h3; omega
    | succ d ih =>
      intro m h1 h2 h3 h4
      refine lp_11_2 _ SI SJ ⟨fun c => ?_, fun c => ?_⟩
      · rw [i3_lt (by omega) (by omega) (by omega) (by omega)] at c; omega
      · refine inner m (by omega) (fun s hs => ?_) (fun hno => ?_)
        · have e2 : prA W n = some s := otn_hit hs _ _ h1 (by omega) h4
          have e' : prS W n = s := by unfold prS; rw [e2]; rfl
          rw [e'] at h; exact h
        · have ne : m ≠ k0 := fun z => by rw [z] at hno; exact m0 hno
          refine ih (m + 1) (by omega) (by omega) (by omega) (fun k k1 k2 => ?_)
          by_cases e : k = m
          · rw [e]; exact hno
          · exact h4 k k1 (by omega)
  refine st_11 SI SJ ?_
  exact outer 3 4 (by omega) (by omega) a2 (fun k k1 k2 => absurd k1 (by omega))
theorem sp_spanW {Q : Int64 → gj_I → gj_J → Prop} {a b : Int32} (hL : LB42 W O n SI SJ) (hC : PB42 W n SI SJ) (hn : n ≤ 14) (hB : Wb W n) (s j : Nat) (hs : s ≤ fullS n) (h4 : pct s = 4) (hj : j < 4) (ha : a = i3 s) (hb : b = i3 j) (h : ∀ d : Int, d.natAbs = dt W s j → Q (i6 d) SI SJ) : DoL E 13 [(.ref 42), (.int a), (.int b)] SI SJ Q := by
  subst ha; subst hb
  have hfb := fullS_b hn
  have ef : fullS n = 2 ^ n - 1 := rfl
  have p1 : 1 ≤ 2 ^ n := Nat.one_le_two_pow
  have en : cnt s n = 4 := by rw [← pct_n (by omega) (by omega)]; exact h4
  have mbd : ∀ k, k < 4 → mb s k < n ∧ s.testBit (mb s k) = true ∧ cnt s (mb s k) = k := fun k hk => ⟨mb_lt hs (by omega), (mb_s (by omega)).2⟩
  have mbo : ∀ i, inS s n i → cnt s i < 4 ∧ mb s (cnt s i) = i := fun i hi => mb_of h4 hn hi
  have kb : ∀ r t, r ≤ 3 → 1 ≤ t → -1 ≤ kI s j r t ∧ kI s j r t < 31 := by
    intro r t hr ht
    unfold kI
    split
    · have := (mbd (if r - t < j then r - t else r - t + 1) (by split <;> omega)).1
      omega
    · omega
  refine st_13 _ _ SI SJ ?_
  refine up_lp (α := Nat) (P := fun i r A B => A = SI ∧ B = SJ ∧ r ≤ 3 ∧ cnt s i = r + (if j < cnt s i then 1 else 0)) (G := fun i r A B => GoL E mt_13 14 [some (.ref 42), some (.int (i3 (s : Nat))), some (.int (i3 (j : Nat))), some (.int (i3 (kI s j r 3))), some (.int (i3 (kI s j r 2))), some (.int (i3 (kI s j r 1))), some (.int (i3 (cnt s i : Nat))), some (.int (i3 i))] A B Q) n ?_ ?_ 0 0 SI SJ (by omega) ⟨rfl, rfl, by decide, rfl⟩
  · rintro r A B ⟨rfl, rfl, r3, er⟩
    rw [en, if_pos (by omega)] at er
    have e3 : r = 3 := by omega
    subst e3
    obtain ⟨x1, x2⟩ : kI s j 3 3 = ((mb s (if j = 0 then 1 else 0) : Nat) : Int) ∧ (if j = 0 then 1 else 0) < 4 := by
      unfold kI
      rw [if_pos (Nat.le_refl 3)]
      by_cases q : j = 0
      · subst q; exact ⟨rfl, by decide⟩
      · rw [if_pos (by omega), if_neg q]; exact ⟨rfl, by decide⟩
    obtain ⟨y1, y2⟩ : kI s j 3 2 = ((mb s (if j < 2 then 2 else 1) : Nat) : Int) ∧ (if j < 2 then 2 else 1) < 4 := by
      unfold kI
      rw [if_pos (by decide)]
      by_cases q : j < 2
      · rw [if_neg (by omega), if_pos q]; exact ⟨rfl, by decide⟩
      · rw [if_pos (by omega), if_neg q]; exact ⟨rfl, by decide⟩
    obtain ⟨z1, z2⟩ : kI s j 3 1 = ((mb s (if j < 3 then 3 else 2) : Nat) : Int) ∧ (if j < 3 then 3 else 2) < 4 := by
      unfold kI
      rw [if_pos (by decide)]
      by_cases q : j < 3
      · rw [if_neg (by omega), if_pos q]; exact ⟨rfl, by decide⟩
      · rw [if_pos (by omega), if_neg q]; exact ⟨rfl, by decide⟩
    have lt : (if j < 2 then 2 else 1) < (if j < 3 then 3 else 2) := by
      by_cases q : j < 2
      · rw [if_pos q, if_pos (by omega)]; decide
      · rw [if_neg q]; split <;> decide
    have hd := h (dot (W (mb s (if j = 0 then 1 else 0))) (crs (W (mb s (if j < 2 then 2 else 1))) (W (mb s (if j < 3 then 3 else 2))))) (by
      unfold dt
      rw [det_dot])
    obtain ⟨x3, -, -⟩ := mbd _ x2
    obtain ⟨y3, y4, y5⟩ := mbd _ y2
    obtain ⟨z3, z4, z5⟩ := mbd _ z2
    have bc : mb s (if j < 2 then 2 else 1) < mb s (if j < 3 then 3 else 2) := (cnt_lt y4 z4).mp (by omega)
    rw [x1, y1, z1]
    generalize mb s (if j = 0 then 1 else 0) = xa at *
    generalize mb s (if j < 2 then 2 else 1) = xb at *
    generalize mb s (if j < 3 then 3 else 2) = xc at *
    obtain ⟨c1, c2, c3, -, -⟩ := hC xb xc bc z3 trivial
    refine lp_13_14 _ _ _ _ _ _ _ A B ⟨fun _ => ⟨fun _ => sp_couple xb xc (by omega) rfl rfl (sp_volume42 hL hn xa (cpl xb xc) x3 (cpl_b bc (by omega)) c1 c2 c3 rfl rfl hd), fun q => ?_⟩, fun q => ?_⟩
    · rw [i3_0le (by omega) (by omega)] at q; omega
    · rw [hL.1, i3_le (by omega) (by omega) (by omega) (by omega)] at q; omega
  · rintro i r A B hi ⟨rfl, rfl, r3, er⟩ ih
    have e : cnt s (i + 1) = cnt s i + (if s.testBit i = true then 1 else 0) := rfl
    refine lp_13_14 _ _ _ _ _ _ _ A B ⟨fun q => ?_, fun _ => ?_⟩
    · rw [hL.1, i3_le (by omega) (by omega) (by omega) (by omega)] at q; omega
    · rw [bit_z (by omega) (by omega), i3_add]
      refine ⟨fun y => ?_, fun y => ?_⟩
      · rw [Decidable.not_not] at y
        obtain ⟨l4, mo⟩ := mbo i ⟨hi, y⟩
        rw [if_pos y] at e
        rw [i3_eq (by omega) (by omega) (by omega) (by omega), i3_add]
        refine ⟨fun q => ?_, fun q => ?_⟩
        · have q' : cnt s i = j := by omega
          have nx := ih r A B ⟨rfl, rfl, r3, by rw [e, if_pos (by omega)]; rw [if_neg (by omega)] at er; omega⟩
          rw [e] at nx
          exact nx
        · have rr : r + 1 ≤ 3 := by
            by_cases z : j < cnt s i
            · rw [if_pos z] at er; omega
            · rw [if_neg z] at er; omega
          have nx := ih (r + 1) A B ⟨rfl, rfl, rr, by
            rw [e]
            by_cases z : j < cnt s i
            · rw [if_pos z] at er; rw [if_pos (by omega)]; omega
            · rw [if_neg z] at er; rw [if_neg (by omega)]; omega⟩
          rw [e, kI_up, kI_up] at nx
          have k1 : kI s j (r + 1) 1 = (i : Int) := by
            unfold kI
            rw [if_pos (by omega), Nat.add_sub_cancel]
            by_cases z : j < cnt s i
            · rw [if_pos z] at er; rw [if_neg (by omega), ← er, mo]
            · rw [if_neg z] at er; rw [if_pos (by omega), show r = cnt s i by omega, mo]
          rw [k1] at nx
          exact nx
      · rw [if_neg y] at e
        have nx := ih r A B ⟨rfl, rfl, r3, by rw [e, Nat.add_zero]; exact er⟩
        rw [e, Nat.add_zero] at nx
        rw [i3_add]
        exact nx
theorem sp_multiple {Q : Int64 → gj_I → gj_J → Prop} {a b : Int32} (hL : LB42 W O n SI SJ) (hC : PB42 W n SI SJ) (hn : n ≤ 14) (hB : Wb W n) (s t : Nat) (hs : s ≤ fullS n) (h4 : pct s = 4) (ht : t < 4) (hz : dtG W s 4 ≠ 0) (ha : a = i3 s) (hb : b = i3 t) (h : Q (i6 ((dt W s t / dtG W s 4 : Nat) : Int)) SI SJ) : DoL E 12 [(.ref 42), (.int a), (.int b)] SI SJ Q := by
  subst ha; subst hb
  have hfb := fullS_b hn
  have db : ∀ k, k < 4 → dt W s k ≤ 30000000 := fun k hk => dt_b hB hs h4 hk
  refine st_12 _ _ SI SJ ?_
  refine up_lp (α := Unit) (P := fun k _ A B => A = SI ∧ B = SJ) (G := fun k _ A B => GoL E mt_12 8 [some (.ref 42), some (.int (i3 s)), some (.int (i3 t)), some (.long (i6 (dtG W s k : Nat))), none, some (.long (i6 ((if t < k then dt W s t else 0 : Nat) : Int))), none, some (.int (i3 k)), none, none] A B Q) 4 ?_ ?_ 0 () SI SJ (by omega) ⟨rfl, rfl⟩
  · rintro _ A B ⟨rfl, rfl⟩
    have gb := dtG_b db (Nat.le_refl 4)
    have d1 := db t ht
    refine lp_12_8 _ _ _ _ _ A B ⟨fun _ => ?_, fun c => absurd (by decide) c⟩
    rw [if_pos ht, i6_le (by omega) (by omega) (by omega) (by omega), i6_eq0 (by omega) (by omega)]
    refine ⟨fun c => ?_, fun c => ⟨by omega, ?_⟩⟩
    · have e : dtG W s 4 = 1 := by omega
      rw [e, Nat.div_one] at h; exact h
    · rw [i6_divN (by omega) (by omega) (by omega)]; exact h
  · rintro k _ A B hk ⟨rfl, rfl⟩ ih
    have nx := ih () A B ⟨rfl, rfl⟩
    rw [dtG_s] at nx
    have gb := dtG_b db (show k ≤ 4 by omega)
    have d1 := db k hk
    refine lp_12_8 _ _ _ _ _ A B ⟨fun c => ?_, fun c => sp_spanW hL hC hn hB s k hs h4 hk rfl rfl (fun d hd => ?_)⟩
    · rw [i3_le (by omega) (by omega) (by omega) (by omega)] at c; omega
    · rw [i6_abs (by omega) (by omega), hd]
      refine sp_divisor (by omega) (by omega) (by omega) (by omega) ?_
      have eg : Int.gcd ((dtG W s k : Nat) : Int) ((dt W s k : Nat) : Int) = Nat.gcd (dtG W s k) (dt W s k) := rfl
      rw [eg, i3_add, i3_eq (by omega) (by omega) (by omega) (by omega)]
      refine ⟨fun c2 => ?_, fun c2 => ?_⟩
      · rw [show (if t < k + 1 then dt W s t else 0) = (if t < k then dt W s t else 0) by split <;> split <;> omega] at nx
        exact nx
      · have : t = k := by omega
        subst this
        rw [if_pos (by omega)] at nx; exact nx
theorem sp_proofC {Q : Int64 → gj_I → gj_J → Prop} {a : Int32} (hC : CNT F SI SJ) (hF : WF F) (w : Int) (wr : -2147483648 ≤ w ∧ w < 2147483648) (ha : a = i3 w) (h : Q (i6 (proofA F w)) SI SJ) : DoL E 138 [(.ref 0), (.int a)] SI SJ Q := by
  subst ha
  have bad : ¬ ((0 ≤ w ∧ w ≤ 5) ∧ firmF F) → Q (i6 (-9000000000000000000)) SI SJ := fun e => by
    rw [show proofA F w = -9000000000000000000 from ic_f e] at h; exact h
  have hW := hF.1; have hT := hF.2.1; have hN := hF.2.2.1
  have nb : nW F ≤ 12 := nw_b hN
  have hB : Wb (WW F) (nW F) := Wl_b hW hT (hN.ok hW.1)
  obtain ⟨g1, g2, g3, g4⟩ := hC.2.1
  refine st_138 _ SI SJ ?_
  rw [g4, i3_lt0 (by omega) (by omega), i3_le (by omega) (by omega) (by omega) (by omega)]
  refine ⟨fun c => bad (fun z => (ibc_0.mp c) z.2), fun c => ⟨fun d => bad (fun z => (by omega)), fun d => ⟨fun e => ?_, fun e => bad (fun z => (by omega))⟩⟩⟩
  rw [ibc_0, Classical.not_not] at c
  have eq : proofA F w = (if w = 0 then (pct (prS (WW F) (nW F)) : Int) else if w = 1 then (prS (WW F) (nW F) : Int) else if pct (prS (WW F) (nW F)) = 4 then ((dt (WW F) (prS (WW F) (nW F)) (w - 2).toNat / dtG (WW F) (prS (WW F) (nW F)) 4 : Nat) : Int) else -2) := ic_t ⟨by omega, c⟩
  rw [eq] at h
  have hS : prS (WW F) (nW F) ≤ fullS (nW F) ∧ (pct (prS (WW F) (nW F)) = 4 → dtG (WW F) (prS (WW F) (nW F)) 4 ≠ 0) := by
    unfold prS
    cases hp : prA (WW F) (nW F) with
    | none => exact ⟨Nat.zero_le _, fun z => absurd z (by decide)⟩
    | some x =>
      obtain ⟨m, -, -, m3, -⟩ := otn_f _ _ hp
      obtain ⟨q1, q2, q3⟩ := prM_s m3
      exact ⟨q1, fun z => dtG_nz (dt_nz z (by omega) q3.1)⟩
  have h12 : 2 ^ nW F ≤ 2 ^ 12 := Nat.pow_le_pow_right (by decide) nb
  have p1 : 1 ≤ 2 ^ nW F := Nat.one_le_two_pow
  have ef : fullS (nW F) = 2 ^ nW F - 1 := rfl
  have e31 : pct (prS (WW F) (nW F)) ≤ 31 := pcn_le 31 _
  refine sp_fewest g1.1 g2 nb hB c ?_
  generalize prS (WW F) (nW F) = s at *
  rw [i3_eq0 (by omega) (by omega), i3_eq (by omega) (by omega) (by omega) (by omega)]
  refine ⟨fun q => ⟨fun q2 => sp_bitCount s (by omega) rfl ?_, fun q2 => ?_⟩, fun q => sp_bitCount s (by omega) rfl ?_⟩
  · rw [if_neg q, if_neg q2] at h
    rw [i3_eq (by omega) (by omega) (by omega) (by omega)]
    refine ⟨fun q3 => ?_, fun q3 => ?_⟩
    · rw [if_neg (by omega)] at h; exact h
    · have q4 : pct s = 4 := by omega
      rw [if_pos q4] at h
      refine sp_multiple g1 g2 (by omega) hB s (w - 2).toNat hS.1 q4 (by omega) (hS.2 q4) rfl ?_ h
      rw [i3_sub]; exact i3_c (by omega)
  · rw [if_neg q, if_pos q2] at h
    rw [i3_64 (by omega) (by omega)]; exact h
  · rw [if_pos q] at h
    rw [i3_64 (by omega) (by omega)]; exact h
end ProofC
