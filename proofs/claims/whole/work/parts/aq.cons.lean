/-! aq: CONSTRUCTION: the rules for new, newarray, putfield of a reference, <init> -/
def gj_up (f : Nat → Nat → Option Nat) (v : Nat × Nat × Nat) : Nat → Nat → Option Nat := fun a b => bif Nat.beq a v.1 && Nat.beq b v.2.1 then some v.2.2 else f a b
theorem gj_up_s {f : Nat → Nat → Option Nat} {v : Nat × Nat × Nat} : gj_up f v v.1 v.2.1 = some v.2.2 := by simp [gj_up]
theorem gj_up_n {f : Nat → Nat → Option Nat} {v : Nat × Nat × Nat} {a b : Nat} (h : ¬ (a = v.1 ∧ b = v.2.1)) : gj_up f v a b = f a b := by
  unfold gj_up
  by_cases h1 : a = v.1
  · have h2 : Nat.beq b v.2.1 = false := gj_nb (fun z => h ⟨h1, z⟩)
    simp [h2]
  · have h2 : Nat.beq a v.1 = false := gj_nb h1
    simp [h2]
section GjK
variable {E : gj_E} {SI : gj_I} {SJ : gj_J} {n : Nat} {r : Nat → Nat → Option Nat} {om : gj_Om}
theorem gj_Wd_s : gj_Wd E (n + 1, r) SI SJ = gj_Wd E (n, r) SI SJ ++ [(gj_b E + n, gj_cell E (n, r) SI SJ n)] := by
  show (List.range (n + 1)).map _ = (List.range n).map _ ++ _
  rw [List.range_succ, List.map_append]
  rfl
theorem gj_wrFR {o k v : Nat} {r2 : Nat → Nat → Option Nat} (ho : (gj_Y o).1 = 3) (hkd : gj_kd (gj_Y o).2 k = 2) (h1 : r2 o k = some v) (h2 : ∀ a b, ¬ (a = o ∧ b = k) → r2 a b = r a b) : (gj_Wd E (n, r) SI SJ).set o (gj_b E + o, .inr ((gj_Y o).2, (gj_fs E (n, r) SI SJ o (gj_Y o).2).set k (.ref (gj_ad E v)))) = gj_Wd E (n, r2) SI SJ := by
  refine gj_rs ?_ ?_
  · rw [gj_cellO ho]
    have : gj_fs E (n, r2) SI SJ o (gj_Y o).2 = (gj_fs E (n, r) SI SJ o (gj_Y o).2).set k (.ref (gj_ad E v)) := by
      unfold gj_fs
      symm
      refine gj_rs ?_ ?_
      · rw [hkd]; simp [gj_fv, h1]
      · intro j hj
        unfold gj_fv
        simp only [h2 o j (fun z => hj z.2)]
    rw [this]
  · intro j hj
    have h3 : gj_fs E (n, r2) SI SJ j (gj_Y j).2 = gj_fs E (n, r) SI SJ j (gj_Y j).2 := by
      unfold gj_fs; apply List.map_congr_left; intro t _; unfold gj_fv; simp only [h2 j t (fun z => hj z.1)]
    unfold gj_cell; rw [h3]
def gj_dvv (kd : Nat) : Value := match kd with
  | 1 => .long 0
  | 2 => .null
  | _ => .int 0
set_option maxRecDepth 100000 in
theorem gj_dv : ∀ ci, ci < 12 → ∀ j, j < gj_nf ci → defaultValue (gj_tyf ci j) = gj_dvv (gj_kd ci j) := by decide +kernel
theorem gj_fv0 {o kd k : Nat} (h1 : SI o k = 0) (h2 : SJ o k = 0) (h3 : om.2 o k = none) : gj_fv E om SI SJ o kd k = gj_dvv kd := by
  unfold gj_fv gj_dvv
  match kd with
  | 0 => exact congrArg Value.int h1
  | 1 => exact congrArg Value.long h2
  | 2 => simp only [h3]
  | _ + 3 => exact congrArg Value.int h1
theorem gj_adb {o : Nat} (h : Nat.blt o 128 = true) : gj_ad E o = gj_b E + o := by unfold gj_ad; rw [h]; rfl
end GjK
section GjN
variable {E : gj_E} {M : gj_M} {p : Program} {e : Env} {s : State} {m : MethodId} {args : Array Value} {below : List Frame} {meth : Method} {c : Code} {R : Room} {Qf : State → Prop} {SI : gj_I} {SJ : gj_J} {n nc nk pc idx : Nat} {r : Nat → Nat → Option Nat} {om : gj_Om} {ls : gj_O} {st : List Value}
theorem gj_F.al {a b : Nat} {om2 : gj_Om} (F : gj_F E om M (R, nc, nk, Qf) p s m args meth c) (ho : om2.1 = om.1 + a) (hc : nc + a ≤ R.cells) (hs : nk + b ≤ R.slots) : gj_F E om2 M (R, nc + a, nk + b, Qf) p s m args meth c := by
  obtain ⟨hx, hb, hml, hown, hts, hr, hlo, hK0, hSt, hsz, hXf, hXl, hXc, hXs, hXb⟩ := F
  exact ⟨hx, hb, hml, hown, hts, hr, hlo, hK0, hSt, by show s.heap.size + (nc + a) = gj_b E + om2.1; have h1 : s.heap.size + nc = gj_b E + om.1 := hsz; omega, hXf, hXl, hc, hs, hXb⟩
/-- an instruction of the pure machine that makes no cell -/
theorem cs_ord {q : gj_C} {X : gj_X} (F : gj_F E om M X p s m args meth c) (hok : gj_ok gj_mt M q) (h : gj_step E om (fun mid => gj_Do E om (gj_mt mid)) (fun _ _ _ _ _ => False) (fun _ _ _ => False) (fun ls st SI SJ => gj_G E om M p e s m args below meth c X (q.1 + q.2.2.1) ls st SI SJ) q.1 q.2.1 q.2.2.2 ls st SI SJ) : gj_G E om M p e s m args below meth c X q.1 ls st SI SJ :=
  gj_step_s gj_clT F (fun _ _ _ _ _ _ _ _ hq => hq.elim) hok (fun _ _ _ _ h => h) (fun _ _ _ _ _ h => h.elim) h
theorem cs_new {ci : Nat} {q : vw_C} (F : gj_F E (n, r) M (R, nc, nk, Qf) p s m args meth c) (hd : decode (gj_cc M) pc = .ok (.new idx, 3)) (hq : vwCl[ci]? = some q) (hcl : Cond.classLink M.1.cls idx q.1 ∈ gj_tb) (hi : Cond.instantiable q.1 q.2.2 ∈ gj_tb) (hini : Cond.initialized q.1 ∈ gj_tb) (hci : ci < 12) (hY : gj_Y n = (3, ci)) (hn : Nat.blt n 128 = true) (hz : ∀ k, SI n k = 0 ∧ SJ n k = 0) (hr0 : ∀ k, k < q.2.2 → r n k = none) (hc : nc + 1 ≤ R.cells) (hs : nk + q.2.2 ≤ R.slots) (kk : gj_F E (n + 1, r) M (R, nc + 1, nk + q.2.2, Qf) p s m args meth c → gj_G E (n + 1, r) M p e s m args below meth c (R, nc + 1, nk + q.2.2, Qf) (pc + 3) ls (.ref n :: st) SI SJ) : gj_G E (n, r) M p e s m args below meth c (R, nc, nk, Qf) pc ls st SI SJ := by
  intro H locs la hP hS hL
  refine gj_sz fun hz0 => ?_
  have F2 := F
  obtain ⟨hx, hb, hml, hown, hts, hr, hlo, hK0, hSt, hsz, hXf, hXl, hXc, hXs, hXb⟩ := F2
  have hz1 : s.heap.size + nc = gj_b E + n := hsz
  have hz2 : H.size = gj_b E + n := by
    have a := hS.1
    have b : gj_b E + n ≤ H.size := gj_lo hP (by omega)
    have d : H.size ≤ s.heap.size + nc := hz0
    omega
  obtain ⟨hw, hty, hnm, hnf, hkd⟩ := gj_clT ci q hq
  have hKn := hK0.1 ci q hq
  refine W.newcK hx hb hown (hts _ hcl) (hts _ hi) (hts _ hini) rfl hd hc hs hKn.2.1 hz2 fun H1 kC hkC e1 z1 o1 => ?_
  have hk : ∀ (k : Nat) (x : Nat × va_E), (gj_Wd E (n, r) SI SJ)[k]? = some x → H1[x.1]? = H[x.1]? := fun k x hx => o1 x.1 (by rw [← hz2]; exact (hP k x hx).lt)
  have hP1 : va_P (gj_D E) vwCl (gj_Wd E (n + 1, r) SI SJ) H1 := by
    rw [gj_Wd_s]
    refine (hP.kept hk).app (fun k x hx => ?_)
    have hk1 : k < 1 := (List.getElem?_eq_some_iff.mp hx).1
    rw [show k = 0 by omega] at hx
    cases hx
    have e3 : gj_cell E (n, r) SI SJ n = .inr (ci, gj_fs E (n, r) SI SJ n ci) := by rw [gj_cellO (by rw [hY]), hY]
    rw [e3]
    refine ⟨q, hq, (u_born (gj_tyf ci) hts hw hKn hkC e1 hty).to (fun j hj => ?_)⟩
    show defaultValue (gj_tyf ci j) = (gj_fs E (n, r) SI SJ n ci).getD j .null
    rw [List.getD_eq_getElem?_getD]
    unfold gj_fs
    rw [gj_rg (by rw [← hnf]; exact hj), gj_dv ci hci j (by rw [← hnf]; exact hj)]
    exact (gj_fv0 (hz j).1 (hz j).2 (hr0 j hj)).symm
  have k := kk (F.al rfl hc hs) H1 locs la hP1 ⟨Nat.le_trans hS.1 (by omega), fun x h1 h2 => (o1 x (by have := hS.1; omega)).trans (hS.2.1 x h1 h2), hS.2.2⟩ hL
  have e2 : (Value.ref n :: st).map (gj_rv E) = .ref (gj_b E + n) :: st.map (gj_rv E) := by
    show Value.ref (gj_ad E n) :: _ = _
    rw [gj_adb hn]
  rw [e2] at k
  exact k
theorem cs_arrI {x : Int32} {N : Nat} (F : gj_F E (n, r) M (R, nc, nk, Qf) p s m args meth c) (hd : decode (gj_cc M) pc = .ok (.newarray .int, 2)) (hA : Cond.arrayClass .int ∈ gj_tb) (hY : gj_Y n = (0, N)) (hx0 : ¬ x < 0) (hN : x.toNatClampNeg = N) (hN2 : N ≤ 1000) (hn : Nat.blt n 128 = true) (hzz : ∀ k, SI n k = 0 ∧ SJ n k = 0) (hc : nc + 1 ≤ R.cells) (hs : nk + N ≤ R.slots) (kk : gj_F E (n + 1, r) M (R, nc + 1, nk + N, Qf) p s m args meth c → gj_G E (n + 1, r) M p e s m args below meth c (R, nc + 1, nk + N, Qf) (pc + 2) ls (.ref n :: st) SI SJ) : gj_G E (n, r) M p e s m args below meth c (R, nc, nk, Qf) pc ls (.int x :: st) SI SJ := by
  intro H locs la hP hS hL
  refine gj_sz fun hz0 => ?_
  have F2 := F
  obtain ⟨hx, hb, hml, hown, hts, hr, hlo, hK0, hSt, hsz, hXf, hXl, hXc, hXs, hXb⟩ := F2
  have hz1 : s.heap.size + nc = gj_b E + n := hsz
  have hz2 : H.size = gj_b E + n := by
    have a := hS.1
    have b : gj_b E + n ≤ H.size := gj_lo hP (by omega)
    have d : H.size ≤ s.heap.size + nc := hz0
    omega
  refine va_newaK (atype := .int) hx hb (hts _ hA) rfl hd rfl hx0 hN (Nat.le_trans (Nat.mul_le_mul_right _ hN2) (by decide)) hc hs hz2 fun H1 cA e1 z1 o1 hAr hNm => ?_
  have hca : cA = gj_cI E := Option.some.inj (hNm.symm.trans (hK0.2 0 (gj_cI E, .int) rfl).2)
  subst hca
  have hk : ∀ (k : Nat) (x : Nat × va_E), (gj_Wd E (n, r) SI SJ)[k]? = some x → H1[x.1]? = H[x.1]? := fun k x hx => o1 x.1 (by rw [← hz2]; exact (hP k x hx).lt)
  have hP1 : va_P (gj_D E) vwCl (gj_Wd E (n + 1, r) SI SJ) H1 := by
    rw [gj_Wd_s]
    refine (hP.kept hk).app (fun k x hx => ?_)
    have hk1 : k < 1 := (List.getElem?_eq_some_iff.mp hx).1
    rw [show k = 0 by omega] at hx
    cases hx
    show va_at _ _ (gj_b E + n, gj_cell E (n, r) SI SJ n) H1
    unfold gj_cell
    rw [hY]
    have hf : SI n = fun _ => 0 := funext (fun k => (hzz k).1)
    show H1[gj_b E + n]? = some (vp_cell (gj_cI E) _)
    rw [e1]
    simp only [vp_cell, hf]
    rfl
  have k := kk (F.al rfl hc hs) H1 locs la hP1 ⟨Nat.le_trans hS.1 (by omega), fun x h1 h2 => (o1 x (by have := hS.1; omega)).trans (hS.2.1 x h1 h2), hS.2.2⟩ hL
  have e2 : (Value.ref n :: st).map (gj_rv E) = .ref (gj_b E + n) :: st.map (gj_rv E) := by
    show Value.ref (gj_ad E n) :: _ = _
    rw [gj_adb hn]
  rw [e2] at k
  exact k
theorem cs_arrB {x : Int32} {N : Nat} (F : gj_F E (n, r) M (R, nc, nk, Qf) p s m args meth c) (hd : decode (gj_cc M) pc = .ok (.newarray .byte, 2)) (hA : Cond.arrayClass .byte ∈ gj_tb) (hY : gj_Y n = (1, N)) (hx0 : ¬ x < 0) (hN : x.toNatClampNeg = N) (hN2 : N ≤ 1000) (hn : Nat.blt n 128 = true) (hzz : ∀ k, SI n k = 0 ∧ SJ n k = 0) (hc : nc + 1 ≤ R.cells) (hs : nk + N ≤ R.slots) (kk : gj_F E (n + 1, r) M (R, nc + 1, nk + N, Qf) p s m args meth c → gj_G E (n + 1, r) M p e s m args below meth c (R, nc + 1, nk + N, Qf) (pc + 2) ls (.ref n :: st) SI SJ) : gj_G E (n, r) M p e s m args below meth c (R, nc, nk, Qf) pc ls (.int x :: st) SI SJ := by
  intro H locs la hP hS hL
  refine gj_sz fun hz0 => ?_
  have F2 := F
  obtain ⟨hx, hb, hml, hown, hts, hr, hlo, hK0, hSt, hsz, hXf, hXl, hXc, hXs, hXb⟩ := F2
  have hz1 : s.heap.size + nc = gj_b E + n := hsz
  have hz2 : H.size = gj_b E + n := by
    have a := hS.1
    have b : gj_b E + n ≤ H.size := gj_lo hP (by omega)
    have d : H.size ≤ s.heap.size + nc := hz0
    omega
  refine va_newaK (atype := .byte) hx hb (hts _ hA) rfl hd rfl hx0 hN (Nat.le_trans (Nat.mul_le_mul_right _ hN2) (by decide)) hc hs hz2 fun H1 cA e1 z1 o1 hAr hNm => ?_
  have hca : cA = gj_cB E := Option.some.inj (hNm.symm.trans (hK0.2 1 (gj_cB E, .byte) rfl).2)
  subst hca
  have hk : ∀ (k : Nat) (x : Nat × va_E), (gj_Wd E (n, r) SI SJ)[k]? = some x → H1[x.1]? = H[x.1]? := fun k x hx => o1 x.1 (by rw [← hz2]; exact (hP k x hx).lt)
  have hP1 : va_P (gj_D E) vwCl (gj_Wd E (n + 1, r) SI SJ) H1 := by
    rw [gj_Wd_s]
    refine (hP.kept hk).app (fun k x hx => ?_)
    have hk1 : k < 1 := (List.getElem?_eq_some_iff.mp hx).1
    rw [show k = 0 by omega] at hx
    cases hx
    show va_at _ _ (gj_b E + n, gj_cell E (n, r) SI SJ n) H1
    unfold gj_cell
    rw [hY]
    have hf : SI n = fun _ => 0 := funext (fun k => (hzz k).1)
    show H1[gj_b E + n]? = some (vp_cell (gj_cB E) _)
    rw [e1]
    simp only [vp_cell, hf]
    rfl
  have k := kk (F.al rfl hc hs) H1 locs la hP1 ⟨Nat.le_trans hS.1 (by omega), fun x h1 h2 => (o1 x (by have := hS.1; omega)).trans (hS.2.1 x h1 h2), hS.2.2⟩ hL
  have e2 : (Value.ref n :: st).map (gj_rv E) = .ref (gj_b E + n) :: st.map (gj_rv E) := by
    show Value.ref (gj_ad E n) :: _ = _
    rw [gj_adb hn]
  rw [e2] at k
  exact k
theorem cs_arrJ {x : Int32} {N : Nat} (F : gj_F E (n, r) M (R, nc, nk, Qf) p s m args meth c) (hd : decode (gj_cc M) pc = .ok (.newarray .long, 2)) (hA : Cond.arrayClass .long ∈ gj_tb) (hY : gj_Y n = (2, N)) (hx0 : ¬ x < 0) (hN : x.toNatClampNeg = N) (hN2 : N ≤ 1000) (hn : Nat.blt n 128 = true) (hzz : ∀ k, SI n k = 0 ∧ SJ n k = 0) (hc : nc + 1 ≤ R.cells) (hs : nk + N ≤ R.slots) (kk : gj_F E (n + 1, r) M (R, nc + 1, nk + N, Qf) p s m args meth c → gj_G E (n + 1, r) M p e s m args below meth c (R, nc + 1, nk + N, Qf) (pc + 2) ls (.ref n :: st) SI SJ) : gj_G E (n, r) M p e s m args below meth c (R, nc, nk, Qf) pc ls (.int x :: st) SI SJ := by
  intro H locs la hP hS hL
  refine gj_sz fun hz0 => ?_
  have F2 := F
  obtain ⟨hx, hb, hml, hown, hts, hr, hlo, hK0, hSt, hsz, hXf, hXl, hXc, hXs, hXb⟩ := F2
  have hz1 : s.heap.size + nc = gj_b E + n := hsz
  have hz2 : H.size = gj_b E + n := by
    have a := hS.1
    have b : gj_b E + n ≤ H.size := gj_lo hP (by omega)
    have d : H.size ≤ s.heap.size + nc := hz0
    omega
  refine va_newaK (atype := .long) hx hb (hts _ hA) rfl hd rfl hx0 hN (Nat.le_trans (Nat.mul_le_mul_right _ hN2) (by decide)) hc hs hz2 fun H1 cA e1 z1 o1 hAr hNm => ?_
  have hca : cA = gj_cJ E := Option.some.inj (hNm.symm.trans (hK0.2 2 (gj_cJ E, .long) rfl).2)
  subst hca
  have hk : ∀ (k : Nat) (x : Nat × va_E), (gj_Wd E (n, r) SI SJ)[k]? = some x → H1[x.1]? = H[x.1]? := fun k x hx => o1 x.1 (by rw [← hz2]; exact (hP k x hx).lt)
  have hP1 : va_P (gj_D E) vwCl (gj_Wd E (n + 1, r) SI SJ) H1 := by
    rw [gj_Wd_s]
    refine (hP.kept hk).app (fun k x hx => ?_)
    have hk1 : k < 1 := (List.getElem?_eq_some_iff.mp hx).1
    rw [show k = 0 by omega] at hx
    cases hx
    show va_at _ _ (gj_b E + n, gj_cell E (n, r) SI SJ n) H1
    unfold gj_cell
    rw [hY]
    have hf : SJ n = fun _ => 0 := funext (fun k => (hzz k).2)
    show H1[gj_b E + n]? = some (vp_cell (gj_cJ E) _)
    rw [e1]
    simp only [vp_cell, hf]
    rfl
  have k := kk (F.al rfl hc hs) H1 locs la hP1 ⟨Nat.le_trans hS.1 (by omega), fun x h1 h2 => (o1 x (by have := hS.1; omega)).trans (hS.2.1 x h1 h2), hS.2.2⟩ hL
  have e2 : (Value.ref n :: st).map (gj_rv E) = .ref (gj_b E + n) :: st.map (gj_rv E) := by
    show Value.ref (gj_ad E n) :: _ = _
    rw [gj_adb hn]
  rw [e2] at k
  exact k
theorem cs_ref {ci o k v : Nat} {q : vw_C} {r2 : Nat → Nat → Option Nat} {X : gj_X} (F : gj_F E (n, r) M X p s m args meth c) (hin : meth.name = "<init>") (hd : decode (gj_cc M) pc = .ok (.putfield idx, 3)) (hq : vwCl[ci]? = some q) (hlk : Cond.fieldLink M.1.cls idx (q.2.1 k).1 (q.2.1 k).2.1 (q.2.1 k).2.2.1 ∈ gj_tb) (hY : gj_Y o = (3, ci)) (ho : o < n) (ho2 : Nat.blt o 128 = true) (hk : k < q.2.2) (hkd : gj_kd ci k = 2) (hfin : (q.2.1 k).2.2.2 = true) (hdc : (q.2.1 k).1 = M.1.cls) (hnr : ∀ a : Nat, narrow (gj_tyf ci k) (.ref a) = .ref a) (hft : ∀ a : Nat, fits (gj_tyf ci k) (.ref a) = true) (h1 : r2 o k = some v) (h2 : ∀ a b, ¬ (a = o ∧ b = k) → r2 a b = r a b) (kk : gj_F E (n, r2) M X p s m args meth c → gj_G E (n, r2) M p e s m args below meth c X (pc + 3) ls st SI SJ) : gj_G E (n, r) M p e s m args below meth c X pc ls (.ref v :: .ref o :: st) SI SJ := by
  intro H locs la hP hS hL
  have F2 := F
  obtain ⟨hx, hb, hml, hown, hts, hr, hlo, hK0, hSt, hsz, hXf, hXl, hXc, hXs, hXb⟩ := F2
  obtain ⟨hw, hty, hnm, hnf, hkd2⟩ := gj_clT ci q hq
  have e3 : gj_cell E (n, r) SI SJ o = .inr (ci, gj_fs E (n, r) SI SJ o ci) := by rw [gj_cellO (by rw [hY]), hY]
  have hat : (gj_Wd E (n, r) SI SJ)[o]? = some (gj_b E + o, .inr (ci, gj_fs E (n, r) SI SJ o ci)) := by rw [← e3]; exact gj_at ho
  have e2 : (Value.ref v :: .ref o :: st).map (gj_rv E) = .ref (gj_ad E v) :: .ref (gj_b E + o) :: st.map (gj_rv E) := by
    show Value.ref (gj_ad E v) :: Value.ref (gj_ad E o) :: _ = _
    rw [gj_adb ho2]
  rw [e2]
  refine va_putF (D := gj_D E) (ci := ci) (v := .ref (gj_ad E v)) (ty := gj_tyf ci k) (C := q.1) (T := q.2.1) (N := q.2.2) hx hb hts hw (gj_tyf ci) hty hnm hown hK0 hP (gj_ap E (n, r) SI SJ) hS o hat hq k hk (hts _ hlk) (fun _ h9 => h9) hfin hin hdc (hty k hk) (hnr _) (hft _) (by unfold gj_fs; rw [List.length_map, List.length_range, ← hnf]; exact hk) hd (fun H1 locs1 hP1 hD1 hS1 => ?_)
  have e4 := gj_wrFR (E := E) (SI := SI) (SJ := SJ) (n := n) (o := o) (k := k) (v := v) (r := r) (r2 := r2) (by rw [hY]) (by rw [hY]; exact hkd) h1 h2
  rw [hY] at e4
  have hP2 : va_P (gj_D E) vwCl (gj_Wd E (n, r2) SI SJ) H1 := by rw [← e4]; exact hP1
  exact kk ⟨hx, hb, hml, hown, hts, hr, hlo, hK0, hSt, hsz, hXf, hXl, hXc, hXs, hXb⟩ H1 locs1 la hP2 hS1 hL
end GjN
