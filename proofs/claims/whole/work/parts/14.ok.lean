/-! 14: every record of the program is what the tables say -/
set_option maxRecDepth 100000 in
theorem gj_lay0 : ∀ w ∈ u_ws RX0 TX0 10, w ∈ gj_tb := by
  intro w hw
  obtain ⟨k, hk, rfl⟩ := List.mem_map.mp hw
  have h1 : ∀ c ∈ ([0, 1, 2, 3, 4, 5, 6, 7, 8, 9] : List Nat), u_lay RX0 TX0 c ∈ gj_tb := gj_subq_m (by decide +kernel)
  exact h1 k ((by decide : ∀ k, k < 10 → k ∈ ([0, 1, 2, 3, 4, 5, 6, 7, 8, 9] : List Nat)) k (List.mem_range.mp hk))
set_option maxRecDepth 100000 in
theorem gj_lay1 : ∀ w ∈ u_ws RX1 TX1 2, w ∈ gj_tb := by
  intro w hw
  obtain ⟨k, hk, rfl⟩ := List.mem_map.mp hw
  have h1 : ∀ c ∈ ([0, 1] : List Nat), u_lay RX1 TX1 c ∈ gj_tb := gj_subq_m (by decide +kernel)
  exact h1 k ((by decide : ∀ k, k < 2 → k ∈ ([0, 1] : List Nat)) k (List.mem_range.mp hk))
set_option maxRecDepth 100000 in
theorem gj_lay2 : ∀ w ∈ u_ws RX2 TX2 12, w ∈ gj_tb := by
  intro w hw
  obtain ⟨k, hk, rfl⟩ := List.mem_map.mp hw
  have h1 : ∀ c ∈ ([0, 1, 2, 3, 4, 5, 6, 7, 8, 9, 10, 11] : List Nat), u_lay RX2 TX2 c ∈ gj_tb := gj_subq_m (by decide +kernel)
  exact h1 k ((by decide : ∀ k, k < 12 → k ∈ ([0, 1, 2, 3, 4, 5, 6, 7, 8, 9, 10, 11] : List Nat)) k (List.mem_range.mp hk))
set_option maxRecDepth 100000 in
theorem gj_lay3 : ∀ w ∈ u_ws RX3 TX3 4, w ∈ gj_tb := by
  intro w hw
  obtain ⟨k, hk, rfl⟩ := List.mem_map.mp hw
  have h1 : ∀ c ∈ ([0, 1, 2, 3] : List Nat), u_lay RX3 TX3 c ∈ gj_tb := gj_subq_m (by decide +kernel)
  exact h1 k ((by decide : ∀ k, k < 4 → k ∈ ([0, 1, 2, 3] : List Nat)) k (List.mem_range.mp hk))
set_option maxRecDepth 100000 in
theorem gj_lay4 : ∀ w ∈ u_ws RX4 TX4 9, w ∈ gj_tb := by
  intro w hw
  obtain ⟨k, hk, rfl⟩ := List.mem_map.mp hw
  have h1 : ∀ c ∈ ([0, 1, 2, 3, 4, 5, 6, 7, 8] : List Nat), u_lay RX4 TX4 c ∈ gj_tb := gj_subq_m (by decide +kernel)
  exact h1 k ((by decide : ∀ k, k < 9 → k ∈ ([0, 1, 2, 3, 4, 5, 6, 7, 8] : List Nat)) k (List.mem_range.mp hk))
set_option maxRecDepth 100000 in
theorem gj_lay5 : ∀ w ∈ u_ws RX5 TX5 10, w ∈ gj_tb := by
  intro w hw
  obtain ⟨k, hk, rfl⟩ := List.mem_map.mp hw
  have h1 : ∀ c ∈ ([0, 1, 2, 3, 4, 5, 6, 7, 8, 9] : List Nat), u_lay RX5 TX5 c ∈ gj_tb := gj_subq_m (by decide +kernel)
  exact h1 k ((by decide : ∀ k, k < 10 → k ∈ ([0, 1, 2, 3, 4, 5, 6, 7, 8, 9] : List Nat)) k (List.mem_range.mp hk))
set_option maxRecDepth 100000 in
theorem gj_lay6 : ∀ w ∈ u_ws RX6 TX6 13, w ∈ gj_tb := by
  intro w hw
  obtain ⟨k, hk, rfl⟩ := List.mem_map.mp hw
  have h1 : ∀ c ∈ ([0, 1, 2, 3, 4, 5, 6, 7, 8, 9, 10, 11, 12] : List Nat), u_lay RX6 TX6 c ∈ gj_tb := gj_subq_m (by decide +kernel)
  exact h1 k ((by decide : ∀ k, k < 13 → k ∈ ([0, 1, 2, 3, 4, 5, 6, 7, 8, 9, 10, 11, 12] : List Nat)) k (List.mem_range.mp hk))
set_option maxRecDepth 100000 in
theorem gj_lay7 : ∀ w ∈ u_ws RX7 TX7 13, w ∈ gj_tb := by
  intro w hw
  obtain ⟨k, hk, rfl⟩ := List.mem_map.mp hw
  have h1 : ∀ c ∈ ([0, 1, 2, 3, 4, 5, 6, 7, 8, 9, 10, 11, 12] : List Nat), u_lay RX7 TX7 c ∈ gj_tb := gj_subq_m (by decide +kernel)
  exact h1 k ((by decide : ∀ k, k < 13 → k ∈ ([0, 1, 2, 3, 4, 5, 6, 7, 8, 9, 10, 11, 12] : List Nat)) k (List.mem_range.mp hk))
set_option maxRecDepth 100000 in
theorem gj_lay8 : ∀ w ∈ u_ws RX8 TX8 4, w ∈ gj_tb := by
  intro w hw
  obtain ⟨k, hk, rfl⟩ := List.mem_map.mp hw
  have h1 : ∀ c ∈ ([0, 1, 2, 3] : List Nat), u_lay RX8 TX8 c ∈ gj_tb := gj_subq_m (by decide +kernel)
  exact h1 k ((by decide : ∀ k, k < 4 → k ∈ ([0, 1, 2, 3] : List Nat)) k (List.mem_range.mp hk))
set_option maxRecDepth 100000 in
theorem gj_lay9 : ∀ w ∈ u_ws RX9 TX9 10, w ∈ gj_tb := by
  intro w hw
  obtain ⟨k, hk, rfl⟩ := List.mem_map.mp hw
  have h1 : ∀ c ∈ ([0, 1, 2, 3, 4, 5, 6, 7, 8, 9] : List Nat), u_lay RX9 TX9 c ∈ gj_tb := gj_subq_m (by decide +kernel)
  exact h1 k ((by decide : ∀ k, k < 10 → k ∈ ([0, 1, 2, 3, 4, 5, 6, 7, 8, 9] : List Nat)) k (List.mem_range.mp hk))
set_option maxRecDepth 100000 in
theorem gj_lay10 : ∀ w ∈ u_ws RX10 TX10 14, w ∈ gj_tb := by
  intro w hw
  obtain ⟨k, hk, rfl⟩ := List.mem_map.mp hw
  have h1 : ∀ c ∈ ([0, 1, 2, 3, 4, 5, 6, 7, 8, 9, 10, 11, 12, 13] : List Nat), u_lay RX10 TX10 c ∈ gj_tb := gj_subq_m (by decide +kernel)
  exact h1 k ((by decide : ∀ k, k < 14 → k ∈ ([0, 1, 2, 3, 4, 5, 6, 7, 8, 9, 10, 11, 12, 13] : List Nat)) k (List.mem_range.mp hk))
set_option maxRecDepth 100000 in
theorem gj_lay11 : ∀ w ∈ u_ws RX11 TX11 49, w ∈ gj_tb := by
  intro w hw
  obtain ⟨k, hk, rfl⟩ := List.mem_map.mp hw
  have h1 : ∀ c ∈ ([0, 1, 2, 3, 4, 5, 6, 7, 8, 9, 10, 11, 12, 13, 14, 15, 16, 17, 18, 19, 20, 21, 22, 23, 24, 25, 26, 27, 28, 29, 30, 31, 32, 33, 34, 35, 36, 37, 38, 39, 40, 41, 42, 43, 44, 45, 46, 47, 48] : List Nat), u_lay RX11 TX11 c ∈ gj_tb := gj_subq_m (by decide +kernel)
  exact h1 k ((by decide : ∀ k, k < 49 → k ∈ ([0, 1, 2, 3, 4, 5, 6, 7, 8, 9, 10, 11, 12, 13, 14, 15, 16, 17, 18, 19, 20, 21, 22, 23, 24, 25, 26, 27, 28, 29, 30, 31, 32, 33, 34, 35, 36, 37, 38, 39, 40, 41, 42, 43, 44, 45, 46, 47, 48] : List Nat)) k (List.mem_range.mp hk))
theorem gj_clT : gj_clF := by
  intro ci q hq
  match ci, hq with
  | 0, hq => cases hq; exact ⟨gj_lay0, tyX0_ok, nmX0, rfl, by decide +kernel⟩
  | 1, hq => cases hq; exact ⟨gj_lay1, tyX1_ok, nmX1, rfl, by decide +kernel⟩
  | 2, hq => cases hq; exact ⟨gj_lay2, tyX2_ok, nmX2, rfl, by decide +kernel⟩
  | 3, hq => cases hq; exact ⟨gj_lay3, tyX3_ok, nmX3, rfl, by decide +kernel⟩
  | 4, hq => cases hq; exact ⟨gj_lay4, tyX4_ok, nmX4, rfl, by decide +kernel⟩
  | 5, hq => cases hq; exact ⟨gj_lay5, tyX5_ok, nmX5, rfl, by decide +kernel⟩
  | 6, hq => cases hq; exact ⟨gj_lay6, tyX6_ok, nmX6, rfl, by decide +kernel⟩
  | 7, hq => cases hq; exact ⟨gj_lay7, tyX7_ok, nmX7, rfl, by decide +kernel⟩
  | 8, hq => cases hq; exact ⟨gj_lay8, tyX8_ok, nmX8, rfl, by decide +kernel⟩
  | 9, hq => cases hq; exact ⟨gj_lay9, tyX9_ok, nmX9, rfl, by decide +kernel⟩
  | 10, hq => cases hq; exact ⟨gj_lay10, tyX10_ok, nmX10, rfl, by decide +kernel⟩
  | 11, hq => cases hq; exact ⟨gj_lay11, tyX11_ok, nmX11, rfl, by decide +kernel⟩
  | ci + 12, hq => simp [vwCl] at hq
def gj_mb (oi : Nat) (M : gj_M) (mid idx n : Nat) : Bool := Nat.blt mid 295 && (gj_wM.contains (((oi * 10000 + idx) * 1000 + mid) * 10) || gj_wO.contains (((oi * 10000 + idx) * 1000 + mid) * 10 + 1)) && gj_wC.contains mid && gj_wN.contains (gj_oi.getD mid 99) && Nat.beq (gj_na.getD mid 99) n && Nat.ble ((gj_rm (gj_mt mid)).frames + 1) (gj_rm M).frames && Nat.ble (8 + (gj_nL (gj_mt mid) + 11) + (gj_rm (gj_mt mid)).locals) (gj_rm M).locals
def gj_nb2 (oi : Nat) (M : gj_M) (mid idx : Nat) : Bool := gj_wM.contains (((oi * 10000 + idx) * 1000 + mid) * 10) && gj_wT.contains mid && Nat.ble 1 (gj_rm M).frames && Nat.ble 40 (gj_rm M).locals
def gj_lkb (oi : Nat) (M : gj_M) (pc : Nat) (i : Instr) (ax : Nat) : Bool := match i with
  | .ldc idx => Nat.blt idx 10000 && ((Nat.blt ax 4294967296 && gj_wK.contains ((oi * 10000 + idx) * 10, ax)) || (Nat.beq oi 3 && (Nat.ble 4294967428 ax && Nat.blt ax 4294967432) && Nat.beq idx (gj_tx.getD (ax - 4294967428) (0, "")).1))
  | .ldc_w idx => Nat.blt idx 10000 && gj_wK.contains ((oi * 10000 + idx) * 10, ax)
  | .ldc2_w idx => Nat.blt idx 10000 && gj_wK.contains ((oi * 10000 + idx) * 10 + 1, ax)
  | .goto off => decide ((pc : Int) + off = (ax : Int))
  | .ifCond _ off => decide ((pc : Int) + off = (ax : Int))
  | .if_icmp _ off => decide ((pc : Int) + off = (ax : Int))
  | .tableswitch dflt lo hi offs => decide (0 ≤ (pc : Int) + dflt) && offs.toList.all (fun o => decide (0 ≤ (pc : Int) + o)) && decide (hi = lo + offs.size - 1)
  | .ireturn => (Nat.beq ax 0 && decide (gj_ret M = some .int)) || (Nat.beq ax 1 && decide (gj_ret M = some .boolean)) || (Nat.beq ax 2 && decide (gj_ret M = some .char)) || (Nat.beq ax 3 && decide (gj_ret M = some .byte))
  | .lreturn => decide (gj_ret M = some .long)
  | .return_ => decide (gj_ret M = none)
  | .getfield idx => Nat.blt idx 10000 && ((Nat.blt (ax / 100) 12 && Nat.blt (ax % 100) (gj_nf (ax / 100)) && (gj_wF.contains ((oi * 10000 + idx) * 10000 + ax) && Nat.beq oi (ax / 100) || gj_wG.contains ((oi * 10000 + idx) * 10000 + ax) && !Nat.beq oi (ax / 100))) || (Nat.beq ax 9000 && gj_wS.contains ((oi * 10000 + idx) * 10000 + 9000)) || (Nat.beq ax 9001 && gj_wS.contains ((oi * 10000 + idx) * 10000 + 9001)))
  | .putfield idx => Nat.blt idx 10000 && (Nat.blt (ax / 100) 12 && Nat.blt (ax % 100) (gj_nf (ax / 100)) && (gj_wF.contains ((oi * 10000 + idx) * 10000 + ax) && Nat.beq oi (ax / 100) || gj_wG.contains ((oi * 10000 + idx) * 10000 + ax) && !Nat.beq oi (ax / 100)))
  | .getstatic idx => Nat.blt idx 10000 && ((Nat.blt ax 4 && (gj_wS.contains ((oi * 10000 + idx) * 10000 + ax) || gj_wZ.contains ((oi * 10000 + idx) * 10000 + ax))) || (Nat.beq ax 4 && gj_wS.contains ((oi * 10000 + idx) * 10000 + 4)) || (Nat.beq ax 5 && gj_wS.contains ((oi * 10000 + idx) * 10000 + 5)))
  | .invokevirtual idx => Nat.blt idx 10000 && Nat.ble 1 (ax % 100) && gj_mb oi M (ax / 100 % 1000) idx (ax % 100 - 1) && gj_wI.contains (ax / 100 % 1000) && gj_wL.contains (ax / 100 % 1000) && (Nat.beq (ax / 100000) (gj_oi.getD (ax / 100 % 1000) 99) && Nat.blt (ax / 100000) 12 || Nat.beq (ax / 100000) 50 && Nat.beq (gj_oi.getD (ax / 100 % 1000) 99) 15)
  | .invokestatic idx => Nat.blt idx 10000 && (match ax / 100 % 1000 with
    | 900 => gj_nb2 oi M 900 idx
    | 901 => gj_nb2 oi M 901 idx
    | 902 => gj_nb2 oi M 902 idx
    | 903 => gj_nb2 oi M 903 idx
    | 904 => gj_nb2 oi M 904 idx
    | 905 => true
    | mid => gj_mb oi M mid idx (ax % 100) && gj_wT.contains mid)
  | _ => true

def gj_ck1 (oi : Nat) (M : gj_M) (q : gj_C) : Bool := decide (decode (gj_cc M) q.1 = .ok (q.2.1, q.2.2.1)) && (match gj_lenf q.2.1 with
  | some k => Nat.beq q.2.2.1 k
  | none => true) && gj_lkb oi M q.1 q.2.1 q.2.2.2
def gj_ckM (oi : Nat) (M : gj_M) : Bool := decide (plainName M.1.cls = true) && gj_seq (gj_cd M) && (gj_cd M).all (gj_ck1 oi M)
-- every number of a method: its class by its number, its parameters
def gj_mdb (mid : Nat) : Bool := decide (gj_on.getD (gj_oi.getD mid 99) "" = (gj_mt mid).1.cls) && decide ((gj_mt mid).1.cls ≠ "java/lang/invoke/MethodHandle" ∧ (gj_mt mid).1.cls ≠ "java/lang/invoke/VarHandle") && decide ((parseMethodDescriptor (gj_mt mid).1.desc).map (fun d => d.parameters.length) = some (gj_na.getD mid 99))
set_option maxRecDepth 100000 in
theorem gj_mdf : ∀ mid, mid < 295 → gj_mdb mid = true := by
  have h : (List.range 295).all gj_mdb = true := by decide +kernel
  intro mid hm
  exact List.all_eq_true.mp h mid (List.mem_range.mpr hm)
theorem gj_ct {l : List Nat} {c : Nat} (h : l.contains c = true) : c ∈ l := by simpa using h
theorem gj_wC_0 : ∀ c ∈ ([28, 29, 154, 91, 68, 92, 69, 70, 34, 35, 74, 73, 76, 75, 72, 36, 41, 38, 37, 39, 285, 40, 71, 61, 27] : List Nat), Cond.code (gj_mt c).1 (gj_cc (gj_mt c)) (gj_nL (gj_mt c)) (gj_ret (gj_mt c)) ∈ gj_tb := List.forall_mem_cons.mpr ⟨wc_28, List.forall_mem_cons.mpr ⟨wc_29, List.forall_mem_cons.mpr ⟨wc_154, List.forall_mem_cons.mpr ⟨wc_91, List.forall_mem_cons.mpr ⟨wc_68, List.forall_mem_cons.mpr ⟨wc_92, List.forall_mem_cons.mpr ⟨wc_69, List.forall_mem_cons.mpr ⟨wc_70, List.forall_mem_cons.mpr ⟨wc_34, List.forall_mem_cons.mpr ⟨wc_35, List.forall_mem_cons.mpr ⟨wc_74, List.forall_mem_cons.mpr ⟨wc_73, List.forall_mem_cons.mpr ⟨wc_76, List.forall_mem_cons.mpr ⟨wc_75, List.forall_mem_cons.mpr ⟨wc_72, List.forall_mem_cons.mpr ⟨wc_36, List.forall_mem_cons.mpr ⟨wc_41, List.forall_mem_cons.mpr ⟨wc_38, List.forall_mem_cons.mpr ⟨wc_37, List.forall_mem_cons.mpr ⟨wc_39, List.forall_mem_cons.mpr ⟨wc_285, List.forall_mem_cons.mpr ⟨wc_40, List.forall_mem_cons.mpr ⟨wc_71, List.forall_mem_cons.mpr ⟨wc_61, List.forall_mem_cons.mpr ⟨wc_27, List.forall_mem_nil _⟩⟩⟩⟩⟩⟩⟩⟩⟩⟩⟩⟩⟩⟩⟩⟩⟩⟩⟩⟩⟩⟩⟩⟩⟩
theorem gj_wC_1 : ∀ c ∈ ([114, 0, 65, 30, 31, 32, 1, 5, 2, 6, 9, 8, 3, 10, 80, 93, 23, 24, 25, 79, 78, 288, 290, 289, 291] : List Nat), Cond.code (gj_mt c).1 (gj_cc (gj_mt c)) (gj_nL (gj_mt c)) (gj_ret (gj_mt c)) ∈ gj_tb := List.forall_mem_cons.mpr ⟨wc_114, List.forall_mem_cons.mpr ⟨wc_0, List.forall_mem_cons.mpr ⟨wc_65, List.forall_mem_cons.mpr ⟨wc_30, List.forall_mem_cons.mpr ⟨wc_31, List.forall_mem_cons.mpr ⟨wc_32, List.forall_mem_cons.mpr ⟨wc_1, List.forall_mem_cons.mpr ⟨wc_5, List.forall_mem_cons.mpr ⟨wc_2, List.forall_mem_cons.mpr ⟨wc_6, List.forall_mem_cons.mpr ⟨wc_9, List.forall_mem_cons.mpr ⟨wc_8, List.forall_mem_cons.mpr ⟨wc_3, List.forall_mem_cons.mpr ⟨wc_10, List.forall_mem_cons.mpr ⟨wc_80, List.forall_mem_cons.mpr ⟨wc_93, List.forall_mem_cons.mpr ⟨wc_23, List.forall_mem_cons.mpr ⟨wc_24, List.forall_mem_cons.mpr ⟨wc_25, List.forall_mem_cons.mpr ⟨wc_79, List.forall_mem_cons.mpr ⟨wc_78, List.forall_mem_cons.mpr ⟨wc_288, List.forall_mem_cons.mpr ⟨wc_290, List.forall_mem_cons.mpr ⟨wc_289, List.forall_mem_cons.mpr ⟨wc_291, List.forall_mem_nil _⟩⟩⟩⟩⟩⟩⟩⟩⟩⟩⟩⟩⟩⟩⟩⟩⟩⟩⟩⟩⟩⟩⟩⟩⟩
theorem gj_wC_2 : ∀ c ∈ ([293, 292, 294, 26, 77, 94, 101, 63, 113, 152, 62, 103, 105, 107, 95, 96, 97, 98, 99, 100, 102, 104, 106, 108, 33] : List Nat), Cond.code (gj_mt c).1 (gj_cc (gj_mt c)) (gj_nL (gj_mt c)) (gj_ret (gj_mt c)) ∈ gj_tb := List.forall_mem_cons.mpr ⟨wc_293, List.forall_mem_cons.mpr ⟨wc_292, List.forall_mem_cons.mpr ⟨wc_294, List.forall_mem_cons.mpr ⟨wc_26, List.forall_mem_cons.mpr ⟨wc_77, List.forall_mem_cons.mpr ⟨wc_94, List.forall_mem_cons.mpr ⟨wc_101, List.forall_mem_cons.mpr ⟨wc_63, List.forall_mem_cons.mpr ⟨wc_113, List.forall_mem_cons.mpr ⟨wc_152, List.forall_mem_cons.mpr ⟨wc_62, List.forall_mem_cons.mpr ⟨wc_103, List.forall_mem_cons.mpr ⟨wc_105, List.forall_mem_cons.mpr ⟨wc_107, List.forall_mem_cons.mpr ⟨wc_95, List.forall_mem_cons.mpr ⟨wc_96, List.forall_mem_cons.mpr ⟨wc_97, List.forall_mem_cons.mpr ⟨wc_98, List.forall_mem_cons.mpr ⟨wc_99, List.forall_mem_cons.mpr ⟨wc_100, List.forall_mem_cons.mpr ⟨wc_102, List.forall_mem_cons.mpr ⟨wc_104, List.forall_mem_cons.mpr ⟨wc_106, List.forall_mem_cons.mpr ⟨wc_108, List.forall_mem_cons.mpr ⟨wc_33, List.forall_mem_nil _⟩⟩⟩⟩⟩⟩⟩⟩⟩⟩⟩⟩⟩⟩⟩⟩⟩⟩⟩⟩⟩⟩⟩⟩⟩
theorem gj_wC_3 : ∀ c ∈ ([109, 110, 111, 60, 112, 115, 128, 126, 127, 4, 129, 284, 121, 122, 66, 67, 116, 117, 118, 123, 119, 43, 120, 124, 64] : List Nat), Cond.code (gj_mt c).1 (gj_cc (gj_mt c)) (gj_nL (gj_mt c)) (gj_ret (gj_mt c)) ∈ gj_tb := List.forall_mem_cons.mpr ⟨wc_109, List.forall_mem_cons.mpr ⟨wc_110, List.forall_mem_cons.mpr ⟨wc_111, List.forall_mem_cons.mpr ⟨wc_60, List.forall_mem_cons.mpr ⟨wc_112, List.forall_mem_cons.mpr ⟨wc_115, List.forall_mem_cons.mpr ⟨wc_128, List.forall_mem_cons.mpr ⟨wc_126, List.forall_mem_cons.mpr ⟨wc_127, List.forall_mem_cons.mpr ⟨wc_4, List.forall_mem_cons.mpr ⟨wc_129, List.forall_mem_cons.mpr ⟨wc_284, List.forall_mem_cons.mpr ⟨wc_121, List.forall_mem_cons.mpr ⟨wc_122, List.forall_mem_cons.mpr ⟨wc_66, List.forall_mem_cons.mpr ⟨wc_67, List.forall_mem_cons.mpr ⟨wc_116, List.forall_mem_cons.mpr ⟨wc_117, List.forall_mem_cons.mpr ⟨wc_118, List.forall_mem_cons.mpr ⟨wc_123, List.forall_mem_cons.mpr ⟨wc_119, List.forall_mem_cons.mpr ⟨wc_43, List.forall_mem_cons.mpr ⟨wc_120, List.forall_mem_cons.mpr ⟨wc_124, List.forall_mem_cons.mpr ⟨wc_64, List.forall_mem_nil _⟩⟩⟩⟩⟩⟩⟩⟩⟩⟩⟩⟩⟩⟩⟩⟩⟩⟩⟩⟩⟩⟩⟩⟩⟩
theorem gj_wC_4 : ∀ c ∈ ([125, 130, 131, 88, 89, 81, 132, 90, 133, 82, 83, 53, 54, 7, 287, 55, 56, 57, 58, 14, 84, 15, 134, 85, 86] : List Nat), Cond.code (gj_mt c).1 (gj_cc (gj_mt c)) (gj_nL (gj_mt c)) (gj_ret (gj_mt c)) ∈ gj_tb := List.forall_mem_cons.mpr ⟨wc_125, List.forall_mem_cons.mpr ⟨wc_130, List.forall_mem_cons.mpr ⟨wc_131, List.forall_mem_cons.mpr ⟨wc_88, List.forall_mem_cons.mpr ⟨wc_89, List.forall_mem_cons.mpr ⟨wc_81, List.forall_mem_cons.mpr ⟨wc_132, List.forall_mem_cons.mpr ⟨wc_90, List.forall_mem_cons.mpr ⟨wc_133, List.forall_mem_cons.mpr ⟨wc_82, List.forall_mem_cons.mpr ⟨wc_83, List.forall_mem_cons.mpr ⟨wc_53, List.forall_mem_cons.mpr ⟨wc_54, List.forall_mem_cons.mpr ⟨wc_7, List.forall_mem_cons.mpr ⟨wc_287, List.forall_mem_cons.mpr ⟨wc_55, List.forall_mem_cons.mpr ⟨wc_56, List.forall_mem_cons.mpr ⟨wc_57, List.forall_mem_cons.mpr ⟨wc_58, List.forall_mem_cons.mpr ⟨wc_14, List.forall_mem_cons.mpr ⟨wc_84, List.forall_mem_cons.mpr ⟨wc_15, List.forall_mem_cons.mpr ⟨wc_134, List.forall_mem_cons.mpr ⟨wc_85, List.forall_mem_cons.mpr ⟨wc_86, List.forall_mem_nil _⟩⟩⟩⟩⟩⟩⟩⟩⟩⟩⟩⟩⟩⟩⟩⟩⟩⟩⟩⟩⟩⟩⟩⟩⟩
theorem gj_wC_5 : ∀ c ∈ ([87, 135, 44, 45, 49, 50, 52, 51, 286, 46, 47, 48, 136, 137, 138, 11, 12, 13, 139, 153, 16, 17, 21, 22, 18] : List Nat), Cond.code (gj_mt c).1 (gj_cc (gj_mt c)) (gj_nL (gj_mt c)) (gj_ret (gj_mt c)) ∈ gj_tb := List.forall_mem_cons.mpr ⟨wc_87, List.forall_mem_cons.mpr ⟨wc_135, List.forall_mem_cons.mpr ⟨wc_44, List.forall_mem_cons.mpr ⟨wc_45, List.forall_mem_cons.mpr ⟨wc_49, List.forall_mem_cons.mpr ⟨wc_50, List.forall_mem_cons.mpr ⟨wc_52, List.forall_mem_cons.mpr ⟨wc_51, List.forall_mem_cons.mpr ⟨wc_286, List.forall_mem_cons.mpr ⟨wc_46, List.forall_mem_cons.mpr ⟨wc_47, List.forall_mem_cons.mpr ⟨wc_48, List.forall_mem_cons.mpr ⟨wc_136, List.forall_mem_cons.mpr ⟨wc_137, List.forall_mem_cons.mpr ⟨wc_138, List.forall_mem_cons.mpr ⟨wc_11, List.forall_mem_cons.mpr ⟨wc_12, List.forall_mem_cons.mpr ⟨wc_13, List.forall_mem_cons.mpr ⟨wc_139, List.forall_mem_cons.mpr ⟨wc_153, List.forall_mem_cons.mpr ⟨wc_16, List.forall_mem_cons.mpr ⟨wc_17, List.forall_mem_cons.mpr ⟨wc_21, List.forall_mem_cons.mpr ⟨wc_22, List.forall_mem_cons.mpr ⟨wc_18, List.forall_mem_nil _⟩⟩⟩⟩⟩⟩⟩⟩⟩⟩⟩⟩⟩⟩⟩⟩⟩⟩⟩⟩⟩⟩⟩⟩⟩
theorem gj_wC_6 : ∀ c ∈ ([19, 20, 140, 141, 142, 144, 143, 145, 146, 147, 148, 42, 149, 150, 151, 197, 155, 198, 162, 165, 163, 164, 161, 158, 180] : List Nat), Cond.code (gj_mt c).1 (gj_cc (gj_mt c)) (gj_nL (gj_mt c)) (gj_ret (gj_mt c)) ∈ gj_tb := List.forall_mem_cons.mpr ⟨wc_19, List.forall_mem_cons.mpr ⟨wc_20, List.forall_mem_cons.mpr ⟨wc_140, List.forall_mem_cons.mpr ⟨wc_141, List.forall_mem_cons.mpr ⟨wc_142, List.forall_mem_cons.mpr ⟨wc_144, List.forall_mem_cons.mpr ⟨wc_143, List.forall_mem_cons.mpr ⟨wc_145, List.forall_mem_cons.mpr ⟨wc_146, List.forall_mem_cons.mpr ⟨wc_147, List.forall_mem_cons.mpr ⟨wc_148, List.forall_mem_cons.mpr ⟨wc_42, List.forall_mem_cons.mpr ⟨wc_149, List.forall_mem_cons.mpr ⟨wc_150, List.forall_mem_cons.mpr ⟨wc_151, List.forall_mem_cons.mpr ⟨wc_197, List.forall_mem_cons.mpr ⟨wc_155, List.forall_mem_cons.mpr ⟨wc_198, List.forall_mem_cons.mpr ⟨wc_162, List.forall_mem_cons.mpr ⟨wc_165, List.forall_mem_cons.mpr ⟨wc_163, List.forall_mem_cons.mpr ⟨wc_164, List.forall_mem_cons.mpr ⟨wc_161, List.forall_mem_cons.mpr ⟨wc_158, List.forall_mem_cons.mpr ⟨wc_180, List.forall_mem_nil _⟩⟩⟩⟩⟩⟩⟩⟩⟩⟩⟩⟩⟩⟩⟩⟩⟩⟩⟩⟩⟩⟩⟩⟩⟩
theorem gj_wC_7 : ∀ c ∈ ([196, 195, 184, 183, 166, 167, 182, 168, 169, 185, 194, 193, 159, 157, 187, 188, 191, 192, 190, 200, 181, 199, 201, 202, 204] : List Nat), Cond.code (gj_mt c).1 (gj_cc (gj_mt c)) (gj_nL (gj_mt c)) (gj_ret (gj_mt c)) ∈ gj_tb := List.forall_mem_cons.mpr ⟨wc_196, List.forall_mem_cons.mpr ⟨wc_195, List.forall_mem_cons.mpr ⟨wc_184, List.forall_mem_cons.mpr ⟨wc_183, List.forall_mem_cons.mpr ⟨wc_166, List.forall_mem_cons.mpr ⟨wc_167, List.forall_mem_cons.mpr ⟨wc_182, List.forall_mem_cons.mpr ⟨wc_168, List.forall_mem_cons.mpr ⟨wc_169, List.forall_mem_cons.mpr ⟨wc_185, List.forall_mem_cons.mpr ⟨wc_194, List.forall_mem_cons.mpr ⟨wc_193, List.forall_mem_cons.mpr ⟨wc_159, List.forall_mem_cons.mpr ⟨wc_157, List.forall_mem_cons.mpr ⟨wc_187, List.forall_mem_cons.mpr ⟨wc_188, List.forall_mem_cons.mpr ⟨wc_191, List.forall_mem_cons.mpr ⟨wc_192, List.forall_mem_cons.mpr ⟨wc_190, List.forall_mem_cons.mpr ⟨wc_200, List.forall_mem_cons.mpr ⟨wc_181, List.forall_mem_cons.mpr ⟨wc_199, List.forall_mem_cons.mpr ⟨wc_201, List.forall_mem_cons.mpr ⟨wc_202, List.forall_mem_cons.mpr ⟨wc_204, List.forall_mem_nil _⟩⟩⟩⟩⟩⟩⟩⟩⟩⟩⟩⟩⟩⟩⟩⟩⟩⟩⟩⟩⟩⟩⟩⟩⟩
theorem gj_wC_8 : ∀ c ∈ ([203, 206, 205, 215, 212, 213, 208, 207, 209, 211, 210, 214, 175, 170, 173, 171, 172, 156, 174, 218, 216, 217, 220, 219, 229] : List Nat), Cond.code (gj_mt c).1 (gj_cc (gj_mt c)) (gj_nL (gj_mt c)) (gj_ret (gj_mt c)) ∈ gj_tb := List.forall_mem_cons.mpr ⟨wc_203, List.forall_mem_cons.mpr ⟨wc_206, List.forall_mem_cons.mpr ⟨wc_205, List.forall_mem_cons.mpr ⟨wc_215, List.forall_mem_cons.mpr ⟨wc_212, List.forall_mem_cons.mpr ⟨wc_213, List.forall_mem_cons.mpr ⟨wc_208, List.forall_mem_cons.mpr ⟨wc_207, List.forall_mem_cons.mpr ⟨wc_209, List.forall_mem_cons.mpr ⟨wc_211, List.forall_mem_cons.mpr ⟨wc_210, List.forall_mem_cons.mpr ⟨wc_214, List.forall_mem_cons.mpr ⟨wc_175, List.forall_mem_cons.mpr ⟨wc_170, List.forall_mem_cons.mpr ⟨wc_173, List.forall_mem_cons.mpr ⟨wc_171, List.forall_mem_cons.mpr ⟨wc_172, List.forall_mem_cons.mpr ⟨wc_156, List.forall_mem_cons.mpr ⟨wc_174, List.forall_mem_cons.mpr ⟨wc_218, List.forall_mem_cons.mpr ⟨wc_216, List.forall_mem_cons.mpr ⟨wc_217, List.forall_mem_cons.mpr ⟨wc_220, List.forall_mem_cons.mpr ⟨wc_219, List.forall_mem_cons.mpr ⟨wc_229, List.forall_mem_nil _⟩⟩⟩⟩⟩⟩⟩⟩⟩⟩⟩⟩⟩⟩⟩⟩⟩⟩⟩⟩⟩⟩⟩⟩⟩
theorem gj_wC_9 : ∀ c ∈ ([228, 227, 223, 222, 226, 224, 225, 221, 230, 231, 234, 233, 235, 237, 236, 232, 238, 239, 245, 240, 243, 242, 244, 189, 241] : List Nat), Cond.code (gj_mt c).1 (gj_cc (gj_mt c)) (gj_nL (gj_mt c)) (gj_ret (gj_mt c)) ∈ gj_tb := List.forall_mem_cons.mpr ⟨wc_228, List.forall_mem_cons.mpr ⟨wc_227, List.forall_mem_cons.mpr ⟨wc_223, List.forall_mem_cons.mpr ⟨wc_222, List.forall_mem_cons.mpr ⟨wc_226, List.forall_mem_cons.mpr ⟨wc_224, List.forall_mem_cons.mpr ⟨wc_225, List.forall_mem_cons.mpr ⟨wc_221, List.forall_mem_cons.mpr ⟨wc_230, List.forall_mem_cons.mpr ⟨wc_231, List.forall_mem_cons.mpr ⟨wc_234, List.forall_mem_cons.mpr ⟨wc_233, List.forall_mem_cons.mpr ⟨wc_235, List.forall_mem_cons.mpr ⟨wc_237, List.forall_mem_cons.mpr ⟨wc_236, List.forall_mem_cons.mpr ⟨wc_232, List.forall_mem_cons.mpr ⟨wc_238, List.forall_mem_cons.mpr ⟨wc_239, List.forall_mem_cons.mpr ⟨wc_245, List.forall_mem_cons.mpr ⟨wc_240, List.forall_mem_cons.mpr ⟨wc_243, List.forall_mem_cons.mpr ⟨wc_242, List.forall_mem_cons.mpr ⟨wc_244, List.forall_mem_cons.mpr ⟨wc_189, List.forall_mem_cons.mpr ⟨wc_241, List.forall_mem_nil _⟩⟩⟩⟩⟩⟩⟩⟩⟩⟩⟩⟩⟩⟩⟩⟩⟩⟩⟩⟩⟩⟩⟩⟩⟩
theorem gj_wC_10 : ∀ c ∈ ([248, 247, 246, 254, 253, 249, 250, 252, 251, 258, 255, 160, 257, 256, 262, 259, 186, 263, 176, 177, 178, 264, 266, 265, 267] : List Nat), Cond.code (gj_mt c).1 (gj_cc (gj_mt c)) (gj_nL (gj_mt c)) (gj_ret (gj_mt c)) ∈ gj_tb := List.forall_mem_cons.mpr ⟨wc_248, List.forall_mem_cons.mpr ⟨wc_247, List.forall_mem_cons.mpr ⟨wc_246, List.forall_mem_cons.mpr ⟨wc_254, List.forall_mem_cons.mpr ⟨wc_253, List.forall_mem_cons.mpr ⟨wc_249, List.forall_mem_cons.mpr ⟨wc_250, List.forall_mem_cons.mpr ⟨wc_252, List.forall_mem_cons.mpr ⟨wc_251, List.forall_mem_cons.mpr ⟨wc_258, List.forall_mem_cons.mpr ⟨wc_255, List.forall_mem_cons.mpr ⟨wc_160, List.forall_mem_cons.mpr ⟨wc_257, List.forall_mem_cons.mpr ⟨wc_256, List.forall_mem_cons.mpr ⟨wc_262, List.forall_mem_cons.mpr ⟨wc_259, List.forall_mem_cons.mpr ⟨wc_186, List.forall_mem_cons.mpr ⟨wc_263, List.forall_mem_cons.mpr ⟨wc_176, List.forall_mem_cons.mpr ⟨wc_177, List.forall_mem_cons.mpr ⟨wc_178, List.forall_mem_cons.mpr ⟨wc_264, List.forall_mem_cons.mpr ⟨wc_266, List.forall_mem_cons.mpr ⟨wc_265, List.forall_mem_cons.mpr ⟨wc_267, List.forall_mem_nil _⟩⟩⟩⟩⟩⟩⟩⟩⟩⟩⟩⟩⟩⟩⟩⟩⟩⟩⟩⟩⟩⟩⟩⟩⟩
theorem gj_wC_11 : ∀ c ∈ ([270, 179, 269, 268, 274, 260, 261, 273, 271, 275, 276, 277, 272, 278, 279, 280, 281, 282, 283] : List Nat), Cond.code (gj_mt c).1 (gj_cc (gj_mt c)) (gj_nL (gj_mt c)) (gj_ret (gj_mt c)) ∈ gj_tb := List.forall_mem_cons.mpr ⟨wc_270, List.forall_mem_cons.mpr ⟨wc_179, List.forall_mem_cons.mpr ⟨wc_269, List.forall_mem_cons.mpr ⟨wc_268, List.forall_mem_cons.mpr ⟨wc_274, List.forall_mem_cons.mpr ⟨wc_260, List.forall_mem_cons.mpr ⟨wc_261, List.forall_mem_cons.mpr ⟨wc_273, List.forall_mem_cons.mpr ⟨wc_271, List.forall_mem_cons.mpr ⟨wc_275, List.forall_mem_cons.mpr ⟨wc_276, List.forall_mem_cons.mpr ⟨wc_277, List.forall_mem_cons.mpr ⟨wc_272, List.forall_mem_cons.mpr ⟨wc_278, List.forall_mem_cons.mpr ⟨wc_279, List.forall_mem_cons.mpr ⟨wc_280, List.forall_mem_cons.mpr ⟨wc_281, List.forall_mem_cons.mpr ⟨wc_282, List.forall_mem_cons.mpr ⟨wc_283, List.forall_mem_nil _⟩⟩⟩⟩⟩⟩⟩⟩⟩⟩⟩⟩⟩⟩⟩⟩⟩⟩⟩
set_option maxRecDepth 100000 in
theorem gj_wC_in : ∀ c ∈ gj_wC, Cond.code (gj_mt c).1 (gj_cc (gj_mt c)) (gj_nL (gj_mt c)) (gj_ret (gj_mt c)) ∈ gj_tb := by
  rw [show gj_wC = ([28, 29, 154, 91, 68, 92, 69, 70, 34, 35, 74, 73, 76, 75, 72, 36, 41, 38, 37, 39, 285, 40, 71, 61, 27] : List Nat) ++ (([114, 0, 65, 30, 31, 32, 1, 5, 2, 6, 9, 8, 3, 10, 80, 93, 23, 24, 25, 79, 78, 288, 290, 289, 291] : List Nat) ++ (([293, 292, 294, 26, 77, 94, 101, 63, 113, 152, 62, 103, 105, 107, 95, 96, 97, 98, 99, 100, 102, 104, 106, 108, 33] : List Nat) ++ (([109, 110, 111, 60, 112, 115, 128, 126, 127, 4, 129, 284, 121, 122, 66, 67, 116, 117, 118, 123, 119, 43, 120, 124, 64] : List Nat) ++ (([125, 130, 131, 88, 89, 81, 132, 90, 133, 82, 83, 53, 54, 7, 287, 55, 56, 57, 58, 14, 84, 15, 134, 85, 86] : List Nat) ++ (([87, 135, 44, 45, 49, 50, 52, 51, 286, 46, 47, 48, 136, 137, 138, 11, 12, 13, 139, 153, 16, 17, 21, 22, 18] : List Nat) ++ (([19, 20, 140, 141, 142, 144, 143, 145, 146, 147, 148, 42, 149, 150, 151, 197, 155, 198, 162, 165, 163, 164, 161, 158, 180] : List Nat) ++ (([196, 195, 184, 183, 166, 167, 182, 168, 169, 185, 194, 193, 159, 157, 187, 188, 191, 192, 190, 200, 181, 199, 201, 202, 204] : List Nat) ++ (([203, 206, 205, 215, 212, 213, 208, 207, 209, 211, 210, 214, 175, 170, 173, 171, 172, 156, 174, 218, 216, 217, 220, 219, 229] : List Nat) ++ (([228, 227, 223, 222, 226, 224, 225, 221, 230, 231, 234, 233, 235, 237, 236, 232, 238, 239, 245, 240, 243, 242, 244, 189, 241] : List Nat) ++ (([248, 247, 246, 254, 253, 249, 250, 252, 251, 258, 255, 160, 257, 256, 262, 259, 186, 263, 176, 177, 178, 264, 266, 265, 267] : List Nat) ++ (([270, 179, 269, 268, 274, 260, 261, 273, 271, 275, 276, 277, 272, 278, 279, 280, 281, 282, 283] : List Nat)))))))))))) from rfl]
  exact List.forall_mem_append.mpr ⟨gj_wC_0, List.forall_mem_append.mpr ⟨gj_wC_1, List.forall_mem_append.mpr ⟨gj_wC_2, List.forall_mem_append.mpr ⟨gj_wC_3, List.forall_mem_append.mpr ⟨gj_wC_4, List.forall_mem_append.mpr ⟨gj_wC_5, List.forall_mem_append.mpr ⟨gj_wC_6, List.forall_mem_append.mpr ⟨gj_wC_7, List.forall_mem_append.mpr ⟨gj_wC_8, List.forall_mem_append.mpr ⟨gj_wC_9, List.forall_mem_append.mpr ⟨gj_wC_10, gj_wC_11⟩⟩⟩⟩⟩⟩⟩⟩⟩⟩⟩
