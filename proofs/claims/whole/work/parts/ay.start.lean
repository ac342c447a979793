/-! ay: THE LAW FROM ITS ENTRY -/
set_option maxRecDepth 100000 in
theorem gj_Rq_R0 : ∀ o, o < 103 → ∀ k, k < gj_nf (gj_Y o).2 → gj_Rq 101 o k = gj_R0 o k := by decide +kernel
theorem gj_Wd_0 {E : gj_E} {A : gj_I} {B : gj_J} : gj_Wd E (103, gj_Rq 101) A B = gj_Wd E om0 A B := by
  show (List.range 103).map _ = (List.range 103).map _
  apply List.map_congr_left
  intro o ho
  have ho : o < 103 := List.mem_range.mp ho
  have h3 : gj_fs E (103, gj_Rq 101) A B o (gj_Y o).2 = gj_fs E om0 A B o (gj_Y o).2 := by
    unfold gj_fs
    apply List.map_congr_left
    intro k hk
    have e : gj_Rq 101 o k = om0.2 o k := gj_Rq_R0 o ho k (List.mem_range.mp hk)
    unfold gj_fv
    simp only [e]
  show (gj_b E + o, gj_cell E (103, gj_Rq 101) A B o) = (gj_b E + o, gj_cell E om0 A B o)
  unfold gj_cell
  rw [h3]
theorem gj_tbl_E (E : gj_E) : Tbl E := fun k hk => by
  match k, hk with
  | 0, _ => exact ⟨rfl, rfl⟩
  | 1, _ => exact ⟨rfl, rfl⟩
  | 2, _ => exact ⟨rfl, rfl⟩
  | 3, _ => exact ⟨rfl, rfl⟩
  | 4, _ => exact ⟨rfl, rfl⟩
  | 5, _ => exact ⟨rfl, rfl⟩
  | 6, _ => exact ⟨rfl, rfl⟩
  | 7, _ => exact ⟨rfl, rfl⟩
  | n + 8, h => exact absurd h (by omega)
theorem gj_tbr_E (E : gj_E) : Tbr E := fun k hk => by
  match k, hk with
  | 0, _ => exact ⟨rfl, rfl⟩
  | 1, _ => exact ⟨rfl, rfl⟩
  | 2, _ => exact ⟨rfl, rfl⟩
  | 3, _ => exact ⟨rfl, rfl⟩
  | 4, _ => exact ⟨rfl, rfl⟩
  | 5, _ => exact ⟨rfl, rfl⟩
  | 6, _ => exact ⟨rfl, rfl⟩
  | 7, _ => exact ⟨rfl, rfl⟩
  | n + 8, h => exact absurd h (by omega)
theorem gj_inst : ∀ (ci : Nat) (q : vw_C), vwCl[ci]? = some q → Cond.instantiable q.1 q.2.2 ∈ gj_tb := fun ci q hq => by
  match ci, hq with
  | 0, h => cases h; exact win_0
  | 1, h => cases h; exact win_1
  | 2, h => cases h; exact win_2
  | 3, h => cases h; exact win_3
  | 4, h => cases h; exact win_4
  | 5, h => cases h; exact win_5
  | 6, h => cases h; exact win_6
  | 7, h => cases h; exact win_7
  | 8, h => cases h; exact win_8
  | 9, h => cases h; exact win_9
  | 10, h => cases h; exact win_10
  | 11, h => cases h; exact win_11
  | n + 12, h => simp at h
theorem gj_arr_ex {s : State} {args : Array Value} {ty : FieldType} (h : (Cond.arrayClass ty).before args s = true) : ∃ cA : ClassId, ArrOfT s cA ty ∧ s.vm.findClass ("[" ++ ty.toString) = some cA := by
  obtain ⟨cA, kA, comp, h1, h2, h3⟩ := Cond.arrayClass_spec (show (Cond.arrayClass ty).holds args s none s [] = true from h)
  exact ⟨cA, fun n z => ⟨fun k h => (by cases h), kA, h2, comp, h3⟩, h1⟩
theorem gj_K_ex {s : State} {args : Array Value} (hts : ∀ w ∈ gj_tb, w.before args s = true) : ∃ (D : va_G) (cs : ClassId × ClassId × ClassId), va_K D vwCl [(cs.1, .int), (cs.2.1, .byte), (cs.2.2, .long)] s := by
  have h1 : ∀ ci : Nat, ∃ d : ClassId × (Nat → Nat), ∀ q, vwCl[ci]? = some q → u_Kn s q.1 q.2.1 q.2.2 d.1 d.2 := by
    intro ci
    cases hq : vwCl[ci]? with
    | none => exact ⟨(0, fun _ => 0), fun q h => by cases h⟩
    | some q =>
      obtain ⟨c, iS, hk⟩ := u_known (C := q.1) (T := q.2.1) (N := q.2.2) (n := q.2.2) hts (gj_clT ci q hq).1 (hts _ (gj_inst ci q hq))
      exact ⟨(c, iS), fun q2 h => by cases h; exact hk⟩
  obtain ⟨f, hf⟩ := Classical.axiomOfChoice h1
  obtain ⟨cI, hI1, hI2⟩ := gj_arr_ex (hts _ war_int)
  obtain ⟨cB, hB1, hB2⟩ := gj_arr_ex (hts _ war_byte)
  obtain ⟨cJ, hJ1, hJ2⟩ := gj_arr_ex (hts _ war_long)
  refine ⟨(fun k => (f k).1, fun k => (f k).2), (cI, cB, cJ), fun ci q hq => hf ci q hq, fun k q hq => ?_⟩
  match k, hq with
  | 0, h => cases h; exact ⟨hI1, hI2⟩
  | 1, h => cases h; exact ⟨hB1, hB2⟩
  | 2, h => cases h; exact ⟨hJ1, hJ2⟩
  | n + 3, h => simp at h
theorem dl_0 : decode (gj_cc mt_295) 0 = .ok (.new 7, 3) := by decide +kernel
theorem dl_3 : decode (gj_cc mt_295) 3 = .ok (.dup, 1) := by decide +kernel
theorem dl_4 : decode (gj_cc mt_295) 4 = .ok (.invokespecial 9, 3) := by decide +kernel
theorem dl_7 : decode (gj_cc mt_295) 7 = .ok (.astore_n 1, 1) := by decide +kernel
theorem dl_8 : decode (gj_cc mt_295) 8 = .ok (.new 10, 3) := by decide +kernel
theorem dl_11 : decode (gj_cc mt_295) 11 = .ok (.dup, 1) := by decide +kernel
theorem dl_12 : decode (gj_cc mt_295) 12 = .ok (.invokespecial 12, 3) := by decide +kernel
theorem dl_15 : decode (gj_cc mt_295) 15 = .ok (.astore_n 2, 1) := by decide +kernel
set_option maxHeartbeats 4000000 in
set_option maxRecDepth 20000 in
theorem whole_start {p : Program} {e : Env} {s : State} {m : MethodId} {below : List Frame} {meth : Method} {c : Code} (l : Launch) (hflags : l.flags = flags0) {b L : Nat} {xs : Nat → Int32} (hL : L ≤ 3072) (C0 : lw_At p s m meth c b L xs) : W p l e room_1 s m #[Value.ref b] below meth c s.heap [] 0 0 (lw_Z below #[Value.ref b] s) (entryFrame m ([Value.ref b] : List Value).toArray 4) := by
  obtain ⟨hx, hb, hr, hml, hown, hts, hX, hbl, hlocks, hgv⟩ := C0
  obtain ⟨sa, hsa, hSta⟩ := gj_sta_ex l hts hX hbl hgv
  have htb : ∀ w ∈ gj_tb, w.before #[Value.ref b] s = true := fun w hw => hts w (List.mem_filter.mp hw).1
  obtain ⟨D, cs, hK⟩ := gj_K_ex htb
  obtain ⟨E, hE⟩ : ∃ E : gj_E, E = (l, D, cs, s.heap.size, sa, L, xs) := ⟨_, rfl⟩
  have hSt : gj_Sta E s s.heap := by rw [hE]; exact hSta D cs
  have hK : va_K (gj_D E) vwCl (gj_ty E) s := by rw [hE]; exact hK
  have hEb : gj_b E = s.heap.size := by rw [hE]; rfl
  have hE1 : E.1 = l := by rw [hE]
  have hEL : gj_L E = L := by rw [hE]; rfl
  have hEa : gj_ad E 140 = b := by rw [hE]; exact hsa
  clear hE hSta
  subst hE1
  have hret : gj_RT E om0 mt_295 p e s m #[Value.ref b] below meth c (room_1, 103, 4675, lw_Z below #[Value.ref b] s) (QI (fun v _ _ => v = i3 1)) := by
    intro v SI SJ H locs la pc i hq hP hS hd hi
    obtain ⟨x, rfl, rfl⟩ := hq
    rcases hi with ⟨rfl, -⟩ | ⟨-, x, h, -⟩ | ⟨-, h, -⟩
    · refine va_forget (fun q hq => ?_) ?_
      · have := hS.2.2 q hq
        rw [← hEb]; exact this
      · exact lw_ret hx hb hr hlocks hd
    · cases h
    · cases h
  have F0 : gj_F E (0, gj_Rq 0) mt_295 (room_1, 0, 0, lw_Z below #[Value.ref b] s) p s m #[Value.ref b] meth c := ⟨hx, hb, hml, hown, htb, hr, hlocks, hK, hSt, by rw [hEb], rfl, rfl, Nat.zero_le _, Nat.zero_le _, Nat.le_of_eq hEb⟩
  have hz : ZZ 0 (fun _ _ => 0) (fun _ _ => 0) := fun _ _ _ => ⟨rfl, rfl⟩
  have key : gj_G E (0, gj_Rq 0) mt_295 p e s m #[Value.ref b] below meth c (room_1, 0, 0, lw_Z below #[Value.ref b] s) 0 [some (.ref 140), none, none, none] [] (fun _ _ => 0) (fun _ _ => 0) := by
    refine cs_new (ci := 10) (q := (RX10, TX10, 14)) (n := 0) (idx := 7) (pc := 0) F0 dl_0 rfl wcl_L_7 win_10 wii_10 (by decide) rfl rfl (fun k => ⟨rfl, rfl⟩) (fun k _ => rfl) (by decide) (by decide) (fun F1 => ?_)
    refine cs_ord (q := (3, .dup, 1, 0)) F1 ⟨dl_3, rfl, trivial⟩ ?_
    show gj_G E _ mt_295 p e s m #[Value.ref b] below meth c _ 4 [some (.ref 140), none, none, none] [.ref 0, .ref 0] (fun _ _ => 0) (fun _ _ => 0)
    refine cs_init (M2 := mc_10) (idx := 9) (pc := 4) (o := 0) F1 dl_4 mok_L_9 rfl wim_10 rfl (mk_10_0 (E := E) (hz.le (by omega))) rfl (by decide) (by decide) (by decide) (fun A1 B1 h1 F2 => ?_)
    obtain ⟨z1, f1, g1, kX, kD, k5, k6, k7, k8, k9, k10, k11, k12, kt, kb, k42, k64, k65, k011, k012, k013⟩ := h1
    refine cs_ord (q := (7, .astore_n 1, 1, 0)) F2 ⟨dl_7, rfl, trivial⟩ ?_
    show gj_G E _ mt_295 p e s m #[Value.ref b] below meth c _ 8 [some (.ref 140), some (.ref 0), none, none] [] A1 B1
    refine cs_new (ci := 11) (q := (RX11, TX11, 49)) (n := 81) (idx := 10) (pc := 8) F2 dl_8 rfl wcl_L_10 win_11 wii_11 (by decide) rfl rfl (fun k => z1 81 k (by omega)) (fun k _ => rfl) (by decide) (by decide) (fun F3 => ?_)
    refine cs_ord (q := (11, .dup, 1, 0)) F3 ⟨dl_11, rfl, trivial⟩ ?_
    show gj_G E _ mt_295 p e s m #[Value.ref b] below meth c _ 12 [some (.ref 140), some (.ref 0), none, none] [.ref 81, .ref 81] A1 B1
    refine cs_init (M2 := mc_11) (idx := 12) (pc := 12) (o := 81) F3 dl_12 mok_L_12 rfl wim_11 rfl (mk_11_81 (E := E) (z1.le (by omega)) (fun k => (z1 81 k (by omega)).1)) rfl (by decide) (by decide) (by decide) (fun A2 B2 h2 F4 => ?_)
    obtain ⟨z2, f2, g2, kR, k83, k89, k13, k3⟩ := h2
    refine cs_ord (q := (15, .astore_n 2, 1, 0)) F4 ⟨dl_15, rfl, trivial⟩ ?_
    show gj_G E _ mt_295 p e s m #[Value.ref b] below meth c _ 16 [some (.ref 140), some (.ref 0), some (.ref 81), none] [] A2 B2
    have f3 : FI (fun a _ => 81 ≤ a) A1 A2 := f2.le (fun o k z => by unfold Lk at z; omega)
    have hB : BTH FZ (fun _ => 0) (fun _ => 0) false 0 A2 B2 := bth_0 (kX.f f3 ⟨by omega, fun k => by omega⟩) (kD.f f3 ⟨by omega, fun k => by omega⟩) (by rw [f3 3 5 (by omega)]; exact k5) (by rw [f3 3 6 (by omega)]; exact k6) (by rw [f3 3 7 (by omega)]; exact k7) (by rw [f3 3 8 (by omega)]; exact k8) (by rw [f3 3 9 (by omega)]; exact k9) (by rw [f3 3 10 (by omega)]; exact k10) (by rw [f3 3 11 (by omega)]; exact k11) (by rw [f3 3 12 (by omega)]; exact k12) (by rw [f3 1 1 (by omega)]; exact kt) (fun k => by rw [f3 2 k (by omega)]; exact kb k) (by rw [f3 42 9 (by omega)]; exact k42) (by rw [f3 65 4 (by omega)]; exact k64) (by rw [f3 65 5 (by omega)]; exact k65) (by rw [f3 0 11 (by omega)]; exact k011) (by rw [f3 0 12 (by omega)]; exact k012) (by rw [f3 0 13 (by omega)]; exact k013) kR k83 k89 k13 k3
    have go : GoI E mt_295 16 [some (.ref 140), some (.ref 0), some (.ref 81), none] A2 B2 (fun v _ _ => v = i3 1) := lp_295_16 A2 B2 (lw_loop (gj_tbl_E E) (gj_tbr_E E) (by rw [hEL]; exact hL) (fun _ _ => rfl) (gj_L E + 1) 0 (by omega) (by omega) _ _ _ _ _ A2 B2 hB)
    obtain ⟨hx4, hb4, hml4, hown4, hts4, hr4, hlo4, hK4, hSt4, hsz4, hXf4, hXl4, hXc4, hXs4, hXb4⟩ := F4
    have FL : gj_F E om0 mt_295 (room_1, 103, 4675, lw_Z below #[Value.ref b] s) p s m #[Value.ref b] meth c := ⟨hx4, hb4, hml4, hown4, hts4, hr4, hlo4, hK4, hSt4, hsz4, hXf4, hXl4, hXc4, hXs4, hXb4⟩
    have g := go p e s m #[Value.ref b] below meth c _ FL hret
    intro H locs la hP hS hLa
    exact g H locs la (by rw [← gj_Wd_0]; exact hP) hS hLa
  have hl := lv_entry ([Value.ref b]) (n := 4) (Nat.le_of_ble_eq_true rfl)
  rw [lg_entry_eq]
  have hP0 : va_P (gj_D E) vwCl (gj_Wd E (0, gj_Rq 0) (fun _ _ => 0) (fun _ _ => 0)) s.heap := fun k q h => by cases h
  refine key s.heap [] _ hP0 va_S.rf ⟨hl.1, rfl, hl.2.1, ?_⟩
  intro i v hi
  match i, hi with
  | 0, h =>
    cases h
    show _ = some (Slot.val (.ref (gj_ad E 140)))
    rw [hEa]
    exact hl.2.2 (0, .ref b) List.mem_cons_self
  | 1, h => cases h
  | 2, h => cases h
  | 3, h => cases h
  | n + 4, h => simp at h
