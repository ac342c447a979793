/-! 93: the class's press, fingerAt, forces, sees, face -/
theorem lo_1 {u v : Int} (h : Int.gcd u v = 1) : lox u v = u ∧ loy u v = v := by
  unfold lox loy; rw [h]; exact ⟨Int.tdiv_one u, Int.tdiv_one v⟩
section Press42
variable {E : gj_E} {SI : gj_I} {SJ : gj_J} {G : Nat → Int}
theorem sp_press42 {Q : gj_I → gj_J → Prop} {a1 a2 a3 a4 a5 : Int32} {ct : Nat → Nat × Int} {O : Nat → Int} (hX : PX4 G SI) (hD : PD4 G SI) (hW : Wp G) (hT : Wt G) (h8 : SI 3 8 = i3 (G 32)) (h9 : SI 3 9 = i3 (G 33)) (i : Nat) (he : (ct i).1 < nC G) (hk : 1 ≤ (ct i).2 ∧ (ct i).2 < stp G (ct i).1) (hi : i < 7) (hL : LB42 (Wl G ct) (fun j => O (j / fc G)) (i * fc G) SI SJ) (e1 : a1 = i3 (O i)) (e2 : a2 = i3 (ct i).1) (e3 : a3 = i3 (ct i).2) (e4 : a4 = i3 (G 30)) (e5 : a5 = i3 (G 31)) (h : ∀ SI' SJ', FI LIa42 SI SI' → FJ LJa42 SJ SJ' → LB42 (Wl G ct) (fun j => O (j / fc G)) ((i + 1) * fc G) SI' SJ' → Q SI' SJ') : DoV E 65 [(.ref 3), (.ref 42), (.int a1), (.int a2), (.int a3), (.int a4), (.int a5)] SI SJ Q := by
  subst e1; subst e2; subst e3; subst e4; subst e5
  have n8 := hW.1.n.2.1
  have sb := hW.1.s (ct i).1
  have b2 := hW.1.a (ct i).1
  have hTn := hW.T (ct i).1
  have hT2 := hT
  obtain ⟨t1, t2, t3, t4, t5, t6, t7, t8⟩ := hT2
  have ok : ctOk G (ct i) := ⟨he, by omega, by omega⟩
  have pb := px_b hW (ct i).1 (k := (ct i).2) (by omega) (by omega)
  refine st_65_3_42 _ _ _ _ _ SI SJ (sp_hasPlace hX hD hW ((ct i).1 : Int) (ct i).2 (by omega) (by omega) rfl rfl ⟨fun _ => ?_, fun z => ?_⟩)
  · refine sp_stepX hX hD hW.1 (ct i).1 (ct i).2 he rfl rfl (sp_stepY hX hD hW.1 (ct i).1 (ct i).2 he rfl rfl ?_)
    rw [h8, h9, i3_sub, i3_sub]
    have one : ∀ (s : Int) (n : Nat) (A : gj_I) (B : gj_J), (s = 1 ∨ s = -1) → n < 14 → FI LIa42 SI A → FJ LJa42 SJ B → LB42 (Wl G ct) (fun j => O (j / fc G)) n A B → Wl G ct n = wf G (ct i).1 (ct i).2 (G 30) (G 31) s → O (n / fc G) = O i → (∀ A' B', FI LIa42 SI A' → FJ LJa42 SJ B' → LB42 (Wl G ct) (fun j => O (j / fc G)) (n + 1) A' B' → GoV E mt_65 51 [some (.ref 3), some (.ref 42), some (.int (i3 (O i))), some (.int (i3 ((ct i).1 : Nat))), none, some (.int (i3 (G 30))), some (.int (i3 (G 31))), some (.int (i3 (px G (ct i).1 (ct i).2 - G 32))), some (.int (i3 (py G (ct i).1 (ct i).2 - G 33))), some (.int (i3 (s + -2))), none, none, none] A' B' Q) → vp_in (i3 ((ct i).1 : Nat)) 8 ∧ (DoL E 154 [(.long (((-(i3 (G 31))) * (A 8 (gj_n (i3 ((ct i).1 : Nat))))) + ((i3 s * i3 (G 30)) * (A 7 (gj_n (i3 ((ct i).1 : Nat)))))).toInt64), (.long ((i3 (G 31) * (A 7 (gj_n (i3 ((ct i).1 : Nat))))) + ((i3 s * i3 (G 30)) * (A 8 (gj_n (i3 ((ct i).1 : Nat)))))).toInt64)] A B (fun r1 SI2 SJ2 => ((r1).toInt32 ≤ (i3 1) → DoV E 1 [(.ref 42), (.int (i3 (O i))), (.int (((-(i3 (G 31))) * (A 8 (gj_n (i3 ((ct i).1 : Nat))))) + ((i3 s * i3 (G 30)) * (A 7 (gj_n (i3 ((ct i).1 : Nat))))))), (.int ((i3 (G 31) * (A 7 (gj_n (i3 ((ct i).1 : Nat))))) + ((i3 s * i3 (G 30)) * (A 8 (gj_n (i3 ((ct i).1 : Nat))))))), (.int ((i3 (px G (ct i).1 (ct i).2 - G 32) * ((i3 (G 31) * (A 7 (gj_n (i3 ((ct i).1 : Nat))))) + ((i3 s * i3 (G 30)) * (A 8 (gj_n (i3 ((ct i).1 : Nat))))))) - (i3 (py G (ct i).1 (ct i).2 - G 33) * (((-(i3 (G 31))) * (A 8 (gj_n (i3 ((ct i).1 : Nat))))) + ((i3 s * i3 (G 30)) * (A 7 (gj_n (i3 ((ct i).1 : Nat)))))))))] SI2 SJ2 (fun SI4 SJ4 => GoV E mt_65 51 [some (.ref 3), some (.ref 42), some (.int (i3 (O i))), some (.int (i3 ((ct i).1 : Nat))), none, some (.int (i3 (G 30))), some (.int (i3 (G 31))), some (.int (i3 (px G (ct i).1 (ct i).2 - G 32))), some (.int (i3 (py G (ct i).1 (ct i).2 - G 33))), some (.int (i3 s + (i3 (-2)))), none, none, none] SI4 SJ4 Q)) ∧ (¬ (r1).toInt32 ≤ (i3 1) → ¬ (r1).toInt32 = 0 ∧ (DoV E 1 [(.ref 42), (.int (i3 (O i))), (.int ((((-(i3 (G 31))) * (A 8 (gj_n (i3 ((ct i).1 : Nat))))) + ((i3 s * i3 (G 30)) * (A 7 (gj_n (i3 ((ct i).1 : Nat)))))) / (r1).toInt32)), (.int (((i3 (G 31) * (A 7 (gj_n (i3 ((ct i).1 : Nat))))) + ((i3 s * i3 (G 30)) * (A 8 (gj_n (i3 ((ct i).1 : Nat)))))) / (r1).toInt32)), (.int ((i3 (px G (ct i).1 (ct i).2 - G 32) * (((i3 (G 31) * (A 7 (gj_n (i3 ((ct i).1 : Nat))))) + ((i3 s * i3 (G 30)) * (A 8 (gj_n (i3 ((ct i).1 : Nat)))))) / (r1).toInt32)) - (i3 (py G (ct i).1 (ct i).2 - G 33) * ((((-(i3 (G 31))) * (A 8 (gj_n (i3 ((ct i).1 : Nat))))) + ((i3 s * i3 (G 30)) * (A 7 (gj_n (i3 ((ct i).1 : Nat)))))) / (r1).toInt32))))] SI2 SJ2 (fun SI6 SJ6 => GoV E mt_65 51 [some (.ref 3), some (.ref 42), some (.int (i3 (O i))), some (.int (i3 ((ct i).1 : Nat))), none, some (.int (i3 (G 30))), some (.int (i3 (G 31))), some (.int (i3 (px G (ct i).1 (ct i).2 - G 32))), some (.int (i3 (py G (ct i).1 (ct i).2 - G 33))), some (.int (i3 s + (i3 (-2)))), none, none, none] SI6 SJ6 Q))))) := by
      intro s n A B hs hn fA fB hLA hw ho hc
      have d7 : A 7 (ct i).1 = i3 (ax G (ct i).1) := by rw [fA 7 _ (by unfold LIa42; omega)]; exact (hD.1 _ he).1
      have d8 : A 8 (ct i).1 = i3 (ay G (ct i).1) := by rw [fA 8 _ (by unfold LIa42; omega)]; exact (hD.1 _ he).2.1
      rw [i3_in (by omega) (by omega), i3_n (by omega) (by omega), show (((ct i).1 : Nat) : Int).toNat = (ct i).1 by omega, d7, d8]
      obtain ⟨f1, f2⟩ := force_b (a := ax G (ct i).1) (b := ay G (ct i).1) (m := G 30) (q := G 31) (s := s) (by omega) (by omega) ⟨t1, t2⟩ ⟨t3, t4⟩ hs
      have z1 := nz_force (m := G 30) (s := s) t3 hs hTn
      have wb := wf_b hW hT ok hs
      have eu : i3 (-(G 31) * ay G (ct i).1) + i3 (s * G 30 * ax G (ct i).1) = i3 (-(G 31) * ay G (ct i).1 + s * (G 30 * ax G (ct i).1)) := by rw [i3_add]; exact i3_c (by rw [Int.mul_assoc])
      have ev : i3 (G 31 * ax G (ct i).1) + i3 (s * G 30 * ay G (ct i).1) = i3 (G 31 * ax G (ct i).1 + s * (G 30 * ay G (ct i).1)) := by rw [i3_add]; exact i3_c (by rw [Int.mul_assoc])
      simp only [i3_neg, i3_mul]
      rw [eu, ev]
      have ew : wf G (ct i).1 (ct i).2 (G 30) (G 31) s = wr G (ct i).1 (ct i).2 (-(G 31) * ay G (ct i).1 + s * (G 30 * ax G (ct i).1)) (G 31 * ax G (ct i).1 + s * (G 30 * ay G (ct i).1)) := rfl
      rw [ew] at wb hw
      generalize -(G 31) * ay G (ct i).1 + s * (G 30 * ax G (ct i).1) = u at *
      generalize G 31 * ax G (ct i).1 + s * (G 30 * ay G (ct i).1) = v at *
      have gp : 1 ≤ Int.gcd u v ∧ Int.gcd u v ≤ 60 := by
        refine ⟨?_, gcd_le z1 f1 f2⟩
        rcases Nat.eq_zero_or_pos (Int.gcd u v) with q | q
        · exact absurd (Int.gcd_eq_zero_iff.mp q) z1
        · exact q
      rw [i3_64 (by omega) (by omega), i3_64 (by omega) (by omega)]
      refine ⟨by omega, sp_divisor (by omega) (by omega) (by omega) (by omega) ?_⟩
      rw [i6_32 (by omega) (by omega), i3_le (by omega) (by omega) (by omega) (by omega), i3_eq0 (by omega) (by omega), i3_div (by omega) (by omega) (by omega) (by omega), i3_div (by omega) (by omega) (by omega) (by omega)]
      have fin : ∀ x y : Int, x = lox u v → y = loy u v → DoV E 1 [(.ref 42), (.int (i3 (O i))), (.int (i3 x)), (.int (i3 y)), (.int (i3 (px G (ct i).1 (ct i).2 - G 32) * i3 y - i3 (py G (ct i).1 (ct i).2 - G 33) * i3 x))] A B (fun SI4 SJ4 => GoV E mt_65 51 [some (.ref 3), some (.ref 42), some (.int (i3 (O i))), some (.int (i3 ((ct i).1 : Nat))), none, some (.int (i3 (G 30))), some (.int (i3 (G 31))), some (.int (i3 (px G (ct i).1 (ct i).2 - G 32))), some (.int (i3 (py G (ct i).1 (ct i).2 - G 33))), some (.int (i3 s + (i3 (-2)))), none, none, none] SI4 SJ4 Q) := by
        intro x y hx hy
        subst hx; subst hy
        rw [i3_mul, i3_mul, i3_sub, i3_add]
        refine sp_add42 hLA hn (by rw [hw]; omega) (by rw [ho]) (by rw [hw]; rfl) (by rw [hw]; rfl) (by rw [hw]; rfl) (fun A' B' g1 g2 g3 => hc A' B' (fA.tr g1) (fB.tr g2) g3)
      refine ⟨fun q => ?_, fun q => ⟨by omega, ?_⟩⟩
      · have g1 : Int.gcd u v = 1 := by omega
        exact fin u v (lo_1 g1).1.symm (lo_1 g1).2.symm
      · exact fin (lox u v) (loy u v) rfl rfl
    by_cases hm : G 30 = 0
    · have hfc : fc G = 1 := by unfold fc; rw [if_pos hm]
      rw [hfc] at hL h one
      have w1 : Wl G ct (i * 1) = wf G (ct i).1 (ct i).2 (G 30) (G 31) 1 := by
        unfold Wl; rw [hfc, show i * 1 / 1 = i by omega, if_pos (by omega)]
      have o1 : O (i * 1 / 1) = O i := by rw [show i * 1 / 1 = i by omega]
      refine lp_65_51_3_42 _ _ _ _ _ _ _ SI SJ ⟨fun c => absurd (by rw [hm]; rfl) c, fun _ => ⟨fun c => absurd c (by decide), fun _ => ?_⟩⟩
      refine one 1 (i * 1) SI SJ (Or.inl rfl) (by omega) FI.rf FJ.rf hL w1 o1 (fun A B f1 f2 hL2 => ?_)
      refine lp_65_51_3_42 _ _ _ _ _ _ _ A B ⟨fun c => absurd (by rw [hm]; rfl) c, fun _ => ⟨fun _ => ?_, fun c => absurd (by decide) c⟩⟩
      rw [show i * 1 + 1 = (i + 1) * 1 by omega] at hL2
      exact h A B f1 f2 hL2
    · have hfc : fc G = 2 := by unfold fc; rw [if_neg hm]
      rw [hfc] at hL h one
      have w1 : Wl G ct (i * 2) = wf G (ct i).1 (ct i).2 (G 30) (G 31) 1 := by
        unfold Wl; rw [hfc, show i * 2 / 2 = i by omega, if_pos (by omega)]
      have w2 : Wl G ct (i * 2 + 1) = wf G (ct i).1 (ct i).2 (G 30) (G 31) (-1) := by
        unfold Wl; rw [hfc, show (i * 2 + 1) / 2 = i by omega, if_neg (by omega)]
      have o1 : O (i * 2 / 2) = O i := by rw [show i * 2 / 2 = i by omega]
      have o2 : O ((i * 2 + 1) / 2) = O i := by rw [show (i * 2 + 1) / 2 = i by omega]
      have m0 : ¬ i3 (G 30) = 0 := by rw [i3_eq0 (by omega) (by omega)]; exact hm
      refine lp_65_51_3_42 _ _ _ _ _ _ _ SI SJ ⟨fun _ => ⟨fun c => absurd c (by decide), fun _ => ?_⟩, fun c => absurd c m0⟩
      refine one 1 (i * 2) SI SJ (Or.inl rfl) (by omega) FI.rf FJ.rf hL w1 o1 (fun A B f1 f2 hL2 => ?_)
      refine lp_65_51_3_42 _ _ _ _ _ _ _ A B ⟨fun _ => ⟨fun c => absurd c (by decide), fun _ => ?_⟩, fun c => absurd c m0⟩
      refine one (-1) (i * 2 + 1) A B (Or.inr rfl) (by omega) f1 f2 hL2 w2 o2 (fun A2 B2 f3 f4 hL3 => ?_)
      refine lp_65_51_3_42 _ _ _ _ _ _ _ A2 B2 ⟨fun _ => ⟨fun _ => ?_, fun c => absurd (by decide) c⟩, fun c => absurd c m0⟩
      rw [show i * 2 + 1 + 1 = (i + 1) * 2 by omega] at hL3
      exact h A2 B2 f3 f4 hL3
  · rw [ibc_0] at z
    exact absurd ⟨by omega, by omega, hk.1, by rw [show (((ct i).1 : Nat) : Int).toNat = (ct i).1 by omega]; exact hk.2⟩ z
end Press42
section Press66
variable {E : gj_E} {SI : gj_I} {SJ : gj_J} {G : Nat → Int}
theorem sp_press66 {Q : gj_I → gj_J → Prop} {a1 a2 a3 a4 a5 : Int32} {ct : Nat → Nat × Int} {O : Nat → Int} (hX : PX4 G SI) (hD : PD4 G SI) (hW : Wp G) (hT : Wt G) (h8 : SI 3 8 = i3 (G 32)) (h9 : SI 3 9 = i3 (G 33)) (i : Nat) (he : (ct i).1 < nC G) (hk : 1 ≤ (ct i).2 ∧ (ct i).2 < stp G (ct i).1) (hi : i < 7) (hL : LB66 (Wl G ct) (fun j => O (j / fc G)) (i * fc G) SI SJ) (e1 : a1 = i3 (O i)) (e2 : a2 = i3 (ct i).1) (e3 : a3 = i3 (ct i).2) (e4 : a4 = i3 (G 30)) (e5 : a5 = i3 (G 31)) (h : ∀ SI' SJ', FI LIa66 SI SI' → FJ LJa66 SJ SJ' → LB66 (Wl G ct) (fun j => O (j / fc G)) ((i + 1) * fc G) SI' SJ' → Q SI' SJ') : DoV E 65 [(.ref 3), (.ref 66), (.int a1), (.int a2), (.int a3), (.int a4), (.int a5)] SI SJ Q := by
  subst e1; subst e2; subst e3; subst e4; subst e5
  have n8 := hW.1.n.2.1
  have sb := hW.1.s (ct i).1
  have b2 := hW.1.a (ct i).1
  have hTn := hW.T (ct i).1
  have hT2 := hT
  obtain ⟨t1, t2, t3, t4, t5, t6, t7, t8⟩ := hT2
  have ok : ctOk G (ct i) := ⟨he, by omega, by omega⟩
  have pb := px_b hW (ct i).1 (k := (ct i).2) (by omega) (by omega)
  refine st_65_3_66 _ _ _ _ _ SI SJ (sp_hasPlace hX hD hW ((ct i).1 : Int) (ct i).2 (by omega) (by omega) rfl rfl ⟨fun _ => ?_, fun z => ?_⟩)
  · refine sp_stepX hX hD hW.1 (ct i).1 (ct i).2 he rfl rfl (sp_stepY hX hD hW.1 (ct i).1 (ct i).2 he rfl rfl ?_)
    rw [h8, h9, i3_sub, i3_sub]
    have one : ∀ (s : Int) (n : Nat) (A : gj_I) (B : gj_J), (s = 1 ∨ s = -1) → n < 14 → FI LIa66 SI A → FJ LJa66 SJ B → LB66 (Wl G ct) (fun j => O (j / fc G)) n A B → Wl G ct n = wf G (ct i).1 (ct i).2 (G 30) (G 31) s → O (n / fc G) = O i → (∀ A' B', FI LIa66 SI A' → FJ LJa66 SJ B' → LB66 (Wl G ct) (fun j => O (j / fc G)) (n + 1) A' B' → GoV E mt_65 51 [some (.ref 3), some (.ref 66), some (.int (i3 (O i))), some (.int (i3 ((ct i).1 : Nat))), none, some (.int (i3 (G 30))), some (.int (i3 (G 31))), some (.int (i3 (px G (ct i).1 (ct i).2 - G 32))), some (.int (i3 (py G (ct i).1 (ct i).2 - G 33))), some (.int (i3 (s + -2))), none, none, none] A' B' Q) → vp_in (i3 ((ct i).1 : Nat)) 8 ∧ (DoL E 154 [(.long (((-(i3 (G 31))) * (A 8 (gj_n (i3 ((ct i).1 : Nat))))) + ((i3 s * i3 (G 30)) * (A 7 (gj_n (i3 ((ct i).1 : Nat)))))).toInt64), (.long ((i3 (G 31) * (A 7 (gj_n (i3 ((ct i).1 : Nat))))) + ((i3 s * i3 (G 30)) * (A 8 (gj_n (i3 ((ct i).1 : Nat)))))).toInt64)] A B (fun r1 SI2 SJ2 => ((r1).toInt32 ≤ (i3 1) → DoV E 1 [(.ref 66), (.int (i3 (O i))), (.int (((-(i3 (G 31))) * (A 8 (gj_n (i3 ((ct i).1 : Nat))))) + ((i3 s * i3 (G 30)) * (A 7 (gj_n (i3 ((ct i).1 : Nat))))))), (.int ((i3 (G 31) * (A 7 (gj_n (i3 ((ct i).1 : Nat))))) + ((i3 s * i3 (G 30)) * (A 8 (gj_n (i3 ((ct i).1 : Nat))))))), (.int ((i3 (px G (ct i).1 (ct i).2 - G 32) * ((i3 (G 31) * (A 7 (gj_n (i3 ((ct i).1 : Nat))))) + ((i3 s * i3 (G 30)) * (A 8 (gj_n (i3 ((ct i).1 : Nat))))))) - (i3 (py G (ct i).1 (ct i).2 - G 33) * (((-(i3 (G 31))) * (A 8 (gj_n (i3 ((ct i).1 : Nat))))) + ((i3 s * i3 (G 30)) * (A 7 (gj_n (i3 ((ct i).1 : Nat)))))))))] SI2 SJ2 (fun SI4 SJ4 => GoV E mt_65 51 [some (.ref 3), some (.ref 66), some (.int (i3 (O i))), some (.int (i3 ((ct i).1 : Nat))), none, some (.int (i3 (G 30))), some (.int (i3 (G 31))), some (.int (i3 (px G (ct i).1 (ct i).2 - G 32))), some (.int (i3 (py G (ct i).1 (ct i).2 - G 33))), some (.int (i3 s + (i3 (-2)))), none, none, none] SI4 SJ4 Q)) ∧ (¬ (r1).toInt32 ≤ (i3 1) → ¬ (r1).toInt32 = 0 ∧ (DoV E 1 [(.ref 66), (.int (i3 (O i))), (.int ((((-(i3 (G 31))) * (A 8 (gj_n (i3 ((ct i).1 : Nat))))) + ((i3 s * i3 (G 30)) * (A 7 (gj_n (i3 ((ct i).1 : Nat)))))) / (r1).toInt32)), (.int (((i3 (G 31) * (A 7 (gj_n (i3 ((ct i).1 : Nat))))) + ((i3 s * i3 (G 30)) * (A 8 (gj_n (i3 ((ct i).1 : Nat)))))) / (r1).toInt32)), (.int ((i3 (px G (ct i).1 (ct i).2 - G 32) * (((i3 (G 31) * (A 7 (gj_n (i3 ((ct i).1 : Nat))))) + ((i3 s * i3 (G 30)) * (A 8 (gj_n (i3 ((ct i).1 : Nat)))))) / (r1).toInt32)) - (i3 (py G (ct i).1 (ct i).2 - G 33) * ((((-(i3 (G 31))) * (A 8 (gj_n (i3 ((ct i).1 : Nat))))) + ((i3 s * i3 (G 30)) * (A 7 (gj_n (i3 ((ct i).1 : Nat)))))) / (r1).toInt32))))] SI2 SJ2 (fun SI6 SJ6 => GoV E mt_65 51 [some (.ref 3), some (.ref 66), some (.int (i3 (O i))), some (.int (i3 ((ct i).1 : Nat))), none, some (.int (i3 (G 30))), some (.int (i3 (G 31))), some (.int (i3 (px G (ct i).1 (ct i).2 - G 32))), some (.int (i3 (py G (ct i).1 (ct i).2 - G 33))), some (.int (i3 s + (i3 (-2)))), none, none, none] SI6 SJ6 Q))))) := by
      intro s n A B hs hn fA fB hLA hw ho hc
      have d7 : A 7 (ct i).1 = i3 (ax G (ct i).1) := by rw [fA 7 _ (by unfold LIa66; omega)]; exact (hD.1 _ he).1
      have d8 : A 8 (ct i).1 = i3 (ay G (ct i).1) := by rw [fA 8 _ (by unfold LIa66; omega)]; exact (hD.1 _ he).2.1
      rw [i3_in (by omega) (by omega), i3_n (by omega) (by omega), show (((ct i).1 : Nat) : Int).toNat = (ct i).1 by omega, d7, d8]
      obtain ⟨f1, f2⟩ := force_b (a := ax G (ct i).1) (b := ay G (ct i).1) (m := G 30) (q := G 31) (s := s) (by omega) (by omega) ⟨t1, t2⟩ ⟨t3, t4⟩ hs
      have z1 := nz_force (m := G 30) (s := s) t3 hs hTn
      have wb := wf_b hW hT ok hs
      have eu : i3 (-(G 31) * ay G (ct i).1) + i3 (s * G 30 * ax G (ct i).1) = i3 (-(G 31) * ay G (ct i).1 + s * (G 30 * ax G (ct i).1)) := by rw [i3_add]; exact i3_c (by rw [Int.mul_assoc])
      have ev : i3 (G 31 * ax G (ct i).1) + i3 (s * G 30 * ay G (ct i).1) = i3 (G 31 * ax G (ct i).1 + s * (G 30 * ay G (ct i).1)) := by rw [i3_add]; exact i3_c (by rw [Int.mul_assoc])
      simp only [i3_neg, i3_mul]
      rw [eu, ev]
      have ew : wf G (ct i).1 (ct i).2 (G 30) (G 31) s = wr G (ct i).1 (ct i).2 (-(G 31) * ay G (ct i).1 + s * (G 30 * ax G (ct i).1)) (G 31 * ax G (ct i).1 + s * (G 30 * ay G (ct i).1)) := rfl
      rw [ew] at wb hw
      generalize -(G 31) * ay G (ct i).1 + s * (G 30 * ax G (ct i).1) = u at *
      generalize G 31 * ax G (ct i).1 + s * (G 30 * ay G (ct i).1) = v at *
      have gp : 1 ≤ Int.gcd u v ∧ Int.gcd u v ≤ 60 := by
        refine ⟨?_, gcd_le z1 f1 f2⟩
        rcases Nat.eq_zero_or_pos (Int.gcd u v) with q | q
        · exact absurd (Int.gcd_eq_zero_iff.mp q) z1
        · exact q
      rw [i3_64 (by omega) (by omega), i3_64 (by omega) (by omega)]
      refine ⟨by omega, sp_divisor (by omega) (by omega) (by omega) (by omega) ?_⟩
      rw [i6_32 (by omega) (by omega), i3_le (by omega) (by omega) (by omega) (by omega), i3_eq0 (by omega) (by omega), i3_div (by omega) (by omega) (by omega) (by omega), i3_div (by omega) (by omega) (by omega) (by omega)]
      have fin : ∀ x y : Int, x = lox u v → y = loy u v → DoV E 1 [(.ref 66), (.int (i3 (O i))), (.int (i3 x)), (.int (i3 y)), (.int (i3 (px G (ct i).1 (ct i).2 - G 32) * i3 y - i3 (py G (ct i).1 (ct i).2 - G 33) * i3 x))] A B (fun SI4 SJ4 => GoV E mt_65 51 [some (.ref 3), some (.ref 66), some (.int (i3 (O i))), some (.int (i3 ((ct i).1 : Nat))), none, some (.int (i3 (G 30))), some (.int (i3 (G 31))), some (.int (i3 (px G (ct i).1 (ct i).2 - G 32))), some (.int (i3 (py G (ct i).1 (ct i).2 - G 33))), some (.int (i3 s + (i3 (-2)))), none, none, none] SI4 SJ4 Q) := by
        intro x y hx hy
        subst hx; subst hy
        rw [i3_mul, i3_mul, i3_sub, i3_add]
        refine sp_add66 hLA hn (by rw [hw]; omega) (by rw [ho]) (by rw [hw]; rfl) (by rw [hw]; rfl) (by rw [hw]; rfl) (fun A' B' g1 g2 g3 => hc A' B' (fA.tr g1) (fB.tr g2) g3)
      refine ⟨fun q => ?_, fun q => ⟨by omega, ?_⟩⟩
      · have g1 : Int.gcd u v = 1 := by omega
        exact fin u v (lo_1 g1).1.symm (lo_1 g1).2.symm
      · exact fin (lox u v) (loy u v) rfl rfl
    by_cases hm : G 30 = 0
    · have hfc : fc G = 1 := by unfold fc; rw [if_pos hm]
      rw [hfc] at hL h one
      have w1 : Wl G ct (i * 1) = wf G (ct i).1 (ct i).2 (G 30) (G 31) 1 := by
        unfold Wl; rw [hfc, show i * 1 / 1 = i by omega, if_pos (by omega)]
      have o1 : O (i * 1 / 1) = O i := by rw [show i * 1 / 1 = i by omega]
      refine lp_65_51_3_66 _ _ _ _ _ _ _ SI SJ ⟨fun c => absurd (by rw [hm]; rfl) c, fun _ => ⟨fun c => absurd c (by decide), fun _ => ?_⟩⟩
      refine one 1 (i * 1) SI SJ (Or.inl rfl) (by omega) FI.rf FJ.rf hL w1 o1 (fun A B f1 f2 hL2 => ?_)
      refine lp_65_51_3_66 _ _ _ _ _ _ _ A B ⟨fun c => absurd (by rw [hm]; rfl) c, fun _ => ⟨fun _ => ?_, fun c => absurd (by decide) c⟩⟩
      rw [show i * 1 + 1 = (i + 1) * 1 by omega] at hL2
      exact h A B f1 f2 hL2
    · have hfc : fc G = 2 := by unfold fc; rw [if_neg hm]
      rw [hfc] at hL h one
      have w1 : Wl G ct (i * 2) = wf G (ct i).1 (ct i).2 (G 30) (G 31) 1 := by
        unfold Wl; rw [hfc, show i * 2 / 2 = i by omega, if_pos (by omega)]
      have w2 : Wl G ct (i * 2 + 1) = wf G (ct i).1 (ct i).2 (G 30) (G 31) (-1) := by
        unfold Wl; rw [hfc, show (i * 2 + 1) / 2 = i by omega, if_neg (by omega)]
      have o1 : O (i * 2 / 2) = O i := by rw [show i * 2 / 2 = i by omega]
      have o2 : O ((i * 2 + 1) / 2) = O i := by rw [show (i * 2 + 1) / 2 = i by omega]
      have m0 : ¬ i3 (G 30) = 0 := by rw [i3_eq0 (by omega) (by omega)]; exact hm
      refine lp_65_51_3_66 _ _ _ _ _ _ _ SI SJ ⟨fun _ => ⟨fun c => absurd c (by decide), fun _ => ?_⟩, fun c => absurd c m0⟩
      refine one 1 (i * 2) SI SJ (Or.inl rfl) (by omega) FI.rf FJ.rf hL w1 o1 (fun A B f1 f2 hL2 => ?_)
      refine lp_65_51_3_66 _ _ _ _ _ _ _ A B ⟨fun _ => ⟨fun c => absurd c (by decide), fun _ => ?_⟩, fun c => absurd c m0⟩
      refine one (-1) (i * 2 + 1) A B (Or.inr rfl) (by omega) f1 f2 hL2 w2 o2 (fun A2 B2 f3 f4 hL3 => ?_)
      refine lp_65_51_3_66 _ _ _ _ _ _ _ A2 B2 ⟨fun _ => ⟨fun _ => ?_, fun c => absurd (by decide) c⟩, fun c => absurd c m0⟩
      rw [show i * 2 + 1 + 1 = (i + 1) * 2 by omega] at hL3
      exact h A2 B2 f3 f4 hL3
  · rw [ibc_0] at z
    exact absurd ⟨by omega, by omega, hk.1, by rw [show (((ct i).1 : Nat) : Int).toNat = (ct i).1 by omega]; exact hk.2⟩ z
end Press66
section Sees
variable {E : gj_E} {SI : gj_I} {SJ : gj_J} {F : Nat → Int}
theorem sp_fingerAtC {Q : Int32 → gj_I → gj_J → Prop} {x y : Int32} (h5 : SI 3 5 = i3 (F 17)) (hS : ∀ i : Nat, (i : Int) < F 17 → SI 12 i = i3 (F (18 + i)) ∧ SI 13 i = i3 (F (24 + i))) (hG : Wg F) (e k a : Int) (he : -2147483648 ≤ e ∧ e < 2147483648) (hk : -2147483648 ≤ k ∧ k < 2147483648) (hx : x = i3 e) (hy : y = i3 k) (hfg : fgI F e k a) (h : Q (i3 a) SI SJ) : DoI E 63 [(.ref 3), (.int x), (.int y)] SI SJ Q := by
  subst hx; subst hy
  obtain ⟨g1, g2, g3⟩ := hG
  refine st_63 _ _ SI SJ ?_
  refine up_lp (α := Unit) (P := fun i _ A B => A = SI ∧ B = SJ ∧ ∀ j, j < i → ¬ fgp F e k j) (G := fun i _ A B => GoI E mt_63 2 [some (.ref 3), some (.int (i3 e)), some (.int (i3 k)), some (.int (i3 (i : Nat)))] A B Q) (F 17).toNat ?_ ?_ 0 () SI SJ (by omega) ⟨rfl, rfl, fun j hj => by omega⟩
  · rintro _ A B ⟨rfl, rfl, hn⟩
    refine lp_63_2 _ _ _ A B ⟨fun _ => ?_, fun c => ?_⟩
    · rw [fgI_un hfg (Or.inr ⟨rfl, fun j hj => hn j (by omega)⟩)] at h; exact h
    · rw [h5, i3_le (by omega) (by omega) (by omega) (by omega)] at c; omega
  · rintro i _ A B hi ⟨rfl, rfl, hn⟩ ih
    have b := g3 i (by omega)
    obtain ⟨s1, s2⟩ := hS i (by omega)
    have nx : ¬ fgp F e k i → GoI E mt_63 2 [some (.ref 3), some (.int (i3 e)), some (.int (i3 k)), some (.int (i3 ((i : Int) + 1)))] A B Q := by
      intro q
      refine ih () A B ⟨rfl, rfl, fun j hj => ?_⟩
      by_cases z : j = i
      · rw [z]; exact q
      · exact hn j (by omega)
    refine lp_63_2 _ _ _ A B ⟨fun c => ?_, fun c => ?_⟩
    · rw [h5, i3_le (by omega) (by omega) (by omega) (by omega)] at c; omega
    · rw [i3_in (by omega) (by omega), i3_n (by omega) (by omega), show ((i : Nat) : Int).toNat = i by omega, s1, s2, i3_eq (by omega) (by omega) (by omega) (by omega), i3_eq (by omega) (by omega) (by omega) (by omega), i3_add]
      refine ⟨by omega, fun q => nx (fun z => q z.1), fun q => ⟨fun q2 => nx (fun z => q2 z.2), fun q2 => ?_⟩⟩
      rw [fgI_un hfg (Or.inl ⟨i, rfl, by omega, ⟨q, q2⟩, hn⟩)] at h; exact h
theorem sp_seesC {Q : Int32 → gj_I → gj_J → Prop} {a b : Int32} (hX : PX4 F SI) (hD : PD4 F SI) (hW : Wp F) (hT : Wt F) (h6 : SI 3 6 = i3 (F 30)) (h7 : SI 3 7 = i3 (F 31)) (i j : Nat) (hi : i < pn F) (hj : j < pn F) (ha : a = i3 i) (hb : b = i3 j) (h : Q (ibc (see F i j)) SI SJ) : DoI E 67 [(.ref 3), (.int a), (.int b)] SI SJ Q := by
  subst ha; subst hb
  obtain ⟨pe1, pe2⟩ := pn_e hW
  have n8 := hW.1.n.2.1
  have i0 : 0 ≤ (i : Int) := by omega
  have i1 : (i : Int) < pl F (nC F) := by omega
  have j0 : 0 ≤ (j : Int) := by omega
  have j1 : (j : Int) < pl F (nC F) := by omega
  obtain ⟨p1, p2, p3⟩ := pe_s i0 i1
  obtain ⟨q1, q2, q3⟩ := pe_s j0 j1
  have pb := ps_b i0 i1; have qb := ps_b j0 j1
  have xb := xp_b hW i0 i1; have yb := xp_b hW j0 j1
  have ub := upp_b hW i0 i1 j0 j1
  obtain ⟨t1, t2, t3, t4, -⟩ := hT
  obtain ⟨d1, d2⟩ := hD.2.2 i hi
  obtain ⟨d3, d4⟩ := hD.2.2 j hj
  obtain ⟨k1, k2, -⟩ := hD.1 (pe F i) p1
  refine st_67 _ _ SI SJ ?_
  rw [i3_in (by omega) (by omega), i3_in (by omega) (by omega), i3_n (a := (i : Int)) (by omega) (by omega), i3_n (a := (j : Int)) (by omega) (by omega), show ((i : Nat) : Int).toNat = i by omega, show ((j : Nat) : Int).toNat = j by omega, d1, d3, d4]
  refine ⟨by omega, by omega, sp_stepX hX hD hW.1 (pe F j) (ps F j) q1 rfl rfl (sp_stepX hX hD hW.1 (pe F i) (ps F i) p1 rfl d2 (sp_stepY hX hD hW.1 (pe F j) (ps F j) q1 rfl d4 (sp_stepY hX hD hW.1 (pe F i) (ps F i) p1 rfl d2 ?_)))⟩
  rw [i3_in (by omega) (by omega), i3_n (by omega) (by omega), show ((pe F i : Nat) : Int).toNat = pe F i by omega, k1, k2, h6, h7]
  simp only [i3_sub, i3_mul, i3_add]
  have eu : (py F (pe F j) (ps F j) - py F (pe F i) (ps F i)) * ax F (pe F i) - (px F (pe F j) (ps F j) - px F (pe F i) (ps F i)) * ay F (pe F i) = upp F i j := by
    unfold upp xp yp; rw [Int.neg_mul]; omega
  have ea : (px F (pe F j) (ps F j) - px F (pe F i) (ps F i)) * ax F (pe F i) + (py F (pe F j) (ps F j) - py F (pe F i) (ps F i)) * ay F (pe F i) = alo F i j := rfl
  rw [eu, ea]
  rw [i3_abs (by omega) (by omega), i3_mul]
  have m1 := mul_b (a := F 30) (b := upp F i j) (m := 3) (n := 162) (by omega) ub.1
  have m2 := mul_b (a := F 31) (b := ((alo F i j).natAbs : Int)) (m := 3) (n := 162) (by omega) (by omega)
  rw [i3_lt0 (by omega) (by omega), i3_lt (by omega) (by omega) (by omega) (by omega)]
  unfold see at h
  refine ⟨by omega, fun c => ?_, fun c => ⟨fun c2 => ?_, fun c2 => ?_⟩⟩
  · rw [ibc_f (fun z => by omega)] at h; exact h
  · rw [ibc_f (fun z => by omega)] at h; exact h
  · rw [ibc_t ⟨by omega, by omega⟩] at h; exact h
theorem sp_face {Q : Int32 → gj_I → gj_J → Prop} {a b : Int32} (hX : PX4 F SI) (hD : PD4 F SI) (hW : Wp F) (hT : Wt F) (h6 : SI 3 6 = i3 (F 30)) (h7 : SI 3 7 = i3 (F 31)) (i j : Nat) (hi : i < pn F) (hj : j < pn F) (ha : a = i3 i) (hb : b = i3 j) (h : Q (ibc (opp F i j)) SI SJ) : DoI E 66 [(.ref 3), (.int a), (.int b)] SI SJ Q := by
  subst ha; subst hb
  obtain ⟨pe1, pe2⟩ := pn_e hW
  refine st_66 _ _ SI SJ ?_
  rw [i3_eq (by omega) (by omega) (by omega) (by omega)]
  unfold opp at h
  refine ⟨fun c => ?_, fun c => sp_seesC hX hD hW hT h6 h7 i j hi hj rfl rfl ⟨fun c2 => ?_, fun c2 => sp_seesC hX hD hW hT h6 h7 j i hj hi rfl rfl ⟨fun c3 => ?_, fun c3 => ?_⟩⟩⟩
  · rw [ibc_f (fun z => z.1 c)] at h; exact h
  · rw [ibc_0] at c2; rw [ibc_f (fun z => c2 z.2.1)] at h; exact h
  · rw [ibc_0] at c3; rw [ibc_f (fun z => c3 z.2.2)] at h; exact h
  · rw [ibc_0, Classical.not_not] at c2 c3; rw [ibc_t ⟨c, c2, c3⟩] at h; exact h
end Sees
