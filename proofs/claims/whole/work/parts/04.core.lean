/-! 04: THE PURE MACHINE. The state: SI o k, SJ o k: the int (boolean, byte) and the long at place k of cell o; references never change (om.2). gj_step: what must hold before an instruction so that all goes well. -/
abbrev gj_I : Type := Nat → Nat → Int32
abbrev gj_J : Type := Nat → Nat → Int64
abbrev gj_O : Type := List (Option Value)
abbrev gj_C : Type := Nat × Instr × Nat × Nat
abbrev gj_Om : Type := Nat × (Nat → Nat → Option Nat)
abbrev gj_E : Type := Launch × va_G × (ClassId × ClassId × ClassId) × Nat × (Nat → Nat) × Nat × (Nat → Int32)
def gj_D (E : gj_E) : va_G := E.2.1
def gj_cI (E : gj_E) : ClassId := E.2.2.1.1
def gj_cB (E : gj_E) : ClassId := E.2.2.1.2.1
def gj_cJ (E : gj_E) : ClassId := E.2.2.1.2.2
def gj_b (E : gj_E) : Nat := E.2.2.2.1
def gj_sa (E : gj_E) (j : Nat) : Nat := E.2.2.2.2.1 j
def gj_L (E : gj_E) : Nat := E.2.2.2.2.2.1
def gj_xs (E : gj_E) (j : Nat) : Int32 := E.2.2.2.2.2.2 j
def gj_u2 (f : gj_I) (o k : Nat) (x : Int32) : gj_I := fun a b => bif Nat.beq a o && Nat.beq b k then x else f a b
def gj_w2 (f : gj_J) (o k : Nat) (x : Int64) : gj_J := fun a b => bif Nat.beq a o && Nat.beq b k then x else f a b
def gj_ua (f : gj_I) (o : Nat) (g : Nat → Int32) : gj_I := fun a b => bif Nat.beq a o then g b else f a b
def gj_ad (E : gj_E) (i : Nat) : Nat := bif Nat.blt i 128 then gj_b E + i else gj_sa E (i - 128)
def gj_rv (E : gj_E) (v : Value) : Value := match v with
  | .ref i => .ref (gj_ad E i)
  | v => v
def gj_fv (E : gj_E) (om : gj_Om) (SI : gj_I) (SJ : gj_J) (o kd k : Nat) : Value := match kd with
  | 1 => .long (SJ o k)
  | 2 => (match om.2 o k with
    | some r => .ref (gj_ad E r)
    | none => .null)
  | _ => .int (SI o k)
def gj_fs (E : gj_E) (om : gj_Om) (SI : gj_I) (SJ : gj_J) (o ci : Nat) : List Value := (List.range (gj_nf ci)).map (fun k => gj_fv E om SI SJ o (gj_kd ci k) k)
def gj_cell (E : gj_E) (om : gj_Om) (SI : gj_I) (SJ : gj_J) (o : Nat) : va_E := match (gj_Y o).1 with
  | 0 => .inl (gj_cI E, (gj_Y o).2, .inl (SI o))
  | 1 => .inl (gj_cB E, (gj_Y o).2, .inl (SI o))
  | 2 => .inl (gj_cJ E, (gj_Y o).2, .inr (.inl (SJ o)))
  | _ => .inr ((gj_Y o).2, gj_fs E om SI SJ o (gj_Y o).2)
def gj_Wd (E : gj_E) (om : gj_Om) (SI : gj_I) (SJ : gj_J) : va_W := (List.range om.1).map (fun o => (gj_b E + o, gj_cell E om SI SJ o))
def gj_A (E : gj_E) : Nat → Prop := fun q => gj_b E ≤ q
def gj_ty (E : gj_E) : List (ClassId × FieldType) := [(gj_cI E, .int), (gj_cB E, .byte), (gj_cJ E, .long)]
-- what stands before the run and never changes: the class's four tables, four texts with their bytes, the script
def gj_stk (j : Nat) : Nat := ([0, 0, 0, 0, 9, 9, 9, 9, 1, 1, 1, 1, 0] : List Nat).getD j 9
def gj_stn (E : gj_E) (j : Nat) : Nat := ([8, 8, 8, 8, 0, 0, 0, 0, 3, 4, 5, 6, gj_L E] : List Nat).getD j 0
def gj_stt : List (List Int32) := [[0, 1, 1, 2, 1, 3, 2, 3], [1, 3, 2, 3, 1, 2, 1, 1], [1, 1, 0, -1, -1, -1, 0, 1], [0, 1, 1, 1, 0, -1, -1, -1], [], [], [], [], [112, 117, 116], [116, 97, 107, 101], [116, 114, 101, 97, 100], [99, 101, 110, 116, 114, 101]]
def gj_stf (E : gj_E) (j i : Nat) : Int32 := bif Nat.beq j 12 then gj_xs E i else (gj_stt.getD j []).getD i 0
def gj_arn (E : gj_E) (a : Nat) : Nat × Nat := bif Nat.blt a 128 then gj_Y a else (gj_stk (a - 128), gj_stn E (a - 128))
def gj_arf (E : gj_E) (SI : gj_I) (a : Nat) : Nat → Int32 := bif Nat.blt a 128 then SI a else gj_stf E (a - 128)
def gj_i1 (st : List Value) (k : Int32 → List Value → Prop) : Prop := match st with
  | .int x :: r => k x r
  | _ => False
def gj_i2 (st : List Value) (k : Int32 → Int32 → List Value → Prop) : Prop := match st with
  | .int y :: .int x :: r => k x y r
  | _ => False
def gj_l1 (st : List Value) (k : Int64 → List Value → Prop) : Prop := match st with
  | .long x :: r => k x r
  | _ => False
def gj_l2 (st : List Value) (k : Int64 → Int64 → List Value → Prop) : Prop := match st with
  | .long y :: .long x :: r => k x y r
  | _ => False
def gj_li (st : List Value) (k : Int64 → Int32 → List Value → Prop) : Prop := match st with
  | .int y :: .long x :: r => k x y r
  | _ => False
def gj_r1 (st : List Value) (k : Nat → List Value → Prop) : Prop := match st with
  | .ref x :: r => k x r
  | _ => False
def gj_ir (st : List Value) (k : Int32 → Nat → List Value → Prop) : Prop := match st with
  | .int i :: .ref a :: r => k i a r
  | _ => False
def gj_gi (ls : gj_O) (i : Nat) (k : Int32 → Prop) : Prop := match ls[i]? with
  | some (some (.int x)) => k x
  | _ => False
def gj_gl (ls : gj_O) (i : Nat) (k : Int64 → Prop) : Prop := match ls[i]? with
  | some (some (.long x)) => k x
  | _ => False
def gj_ga (ls : gj_O) (i : Nat) (k : Nat → Prop) : Prop := match ls[i]? with
  | some (some (.ref x)) => k x
  | _ => False
def gj_c2 (v : Value) : Bool := match v with
  | .long _ => true
  | .double _ => true
  | _ => false
def gj_kl (ls : gj_O) (i : Nat) : gj_O := match i with
  | 0 => ls
  | j + 1 => (match ls[j]? with
    | some (some v) => (bif gj_c2 v then ls.set j none else ls)
    | _ => ls)
def gj_s1 (ls : gj_O) (i : Nat) (v : Value) (k : gj_O → Prop) : Prop := bif Nat.blt i ls.length then k ((gj_kl ls i).set i (some v)) else False
def gj_s2 (ls : gj_O) (i : Nat) (v : Value) (k : gj_O → Prop) : Prop := bif Nat.blt (i + 1) ls.length then k (((gj_kl ls i).set i (some v)).set (i + 1) none) else False
def gj_cat (st : List Value) : Nat := (st.map fun v => v.category).sum
def gj_pop : Nat → List Value → List Value → (List Value → List Value → Prop) → Prop
  | 0, As, st, k => k As st
  | n + 1, As, v :: st, k => gj_pop n (v :: As) st k
  | _ + 1, _, [], _ => False
def gj_sw (pc : Nat) : Int → List Int → Int32 → (Nat → Prop) → Prop
  | _, [], _, _ => True
  | v, o :: os, x, k => (x = Int32.ofInt v → k ((pc : Int) + o).toNat) ∧ gj_sw pc (v + 1) os x k
def gj_iald (E : gj_E) (om : gj_Om) (SI : gj_I) (kd a : Nat) (k : Nat → (Nat → Int32) → Prop) : Prop := bif Nat.beq (gj_arn E a).1 kd && (Nat.blt a om.1 || Nat.ble 128 a) then k (gj_arn E a).2 (gj_arf E SI a) else False
def gj_lald (om : gj_Om) (SJ : gj_J) (a : Nat) (k : Nat → (Nat → Int64) → Prop) : Prop := bif Nat.beq (gj_Y a).1 2 && (Nat.blt a om.1 && Nat.blt a 128) then k (gj_Y a).2 (SJ a) else False
def gj_iast (om : gj_Om) (kd a : Nat) (k : Nat → Prop) : Prop := bif Nat.beq (gj_Y a).1 kd && (Nat.blt a om.1 && Nat.blt a 128) then k (gj_Y a).2 else False
def gj_alen (E : gj_E) (om : gj_Om) (a : Nat) (k : Nat → Prop) : Prop := bif Nat.blt (gj_arn E a).1 3 && (Nat.blt a om.1 || Nat.ble 128 a) then k (gj_arn E a).2 else False
def gj_fldv (om : gj_Om) (SI : gj_I) (SJ : gj_J) (o kd k : Nat) (kk : Value → Prop) : Prop := match kd with
  | 0 => kk (.int (SI o k))
  | 1 => kk (.long (SJ o k))
  | 2 => (match om.2 o k with
    | some r => kk (.ref r)
    | none => False)
  | 3 => kk (.int (SI o k))
  | _ => False
def gj_getf (om : gj_Om) (SI : gj_I) (SJ : gj_J) (o ax : Nat) (kk : Value → Prop) : Prop :=
  bif Nat.blt o 128 then (bif Nat.beq (gj_Y o).1 3 && (Nat.beq (gj_Y o).2 (ax / 100) && Nat.blt o om.1) then gj_fldv om SI SJ o (gj_kd (ax / 100) (ax % 100)) (ax % 100) kk else False)
  else (bif Nat.ble 132 o && Nat.blt o 136 then (bif Nat.beq ax 9000 then kk (.ref (o + 4)) else (bif Nat.beq ax 9001 then kk (.int 0) else False)) else False)
def gj_putv (SI : gj_I) (SJ : gj_J) (o kd k : Nat) (v : Value) (kk : gj_I → gj_J → Prop) : Prop := match kd with
  | 0 => (match v with
    | .int x => kk (gj_u2 SI o k x) SJ
    | _ => False)
  | 1 => (match v with
    | .long x => kk SI (gj_w2 SJ o k x)
    | _ => False)
  | 3 => (match v with
    | .int x => (x = 0 ∨ x = 1) ∧ kk (gj_u2 SI o k x) SJ
    | _ => False)
  | _ => False
def gj_putf (om : gj_Om) (SI : gj_I) (SJ : gj_J) (ax : Nat) (st : List Value) (kk : List Value → gj_I → gj_J → Prop) : Prop := match st with
  | v :: .ref o :: r => (bif Nat.blt o 128 && (Nat.beq (gj_Y o).1 3 && (Nat.beq (gj_Y o).2 (ax / 100) && Nat.blt o om.1)) then gj_putv SI SJ o (gj_kd (ax / 100) (ax % 100)) (ax % 100) v (fun SI' SJ' => kk r SI' SJ') else False)
  | _ => False
def gj_rcv (om : gj_Om) (ax : Nat) (As : List Value) : Bool := match As with
  | .ref o :: _ => bif Nat.blt o 128 then Nat.beq (gj_Y o).1 3 && (Nat.beq (gj_Y o).2 (ax / 100000) && Nat.blt o om.1) else Nat.beq (ax / 100000) 50 && (Nat.ble 132 o && Nat.blt o 136)
  | _ => false
def gj_cpy (om : gj_Om) (SI : gj_I) (st : List Value) (kk : List Value → gj_I → Prop) : Prop := match st with
  | .int n :: .int dp :: .ref a1 :: .int sp :: .ref a0 :: r => (bif Nat.beq (gj_Y a0).1 0 && (Nat.blt a0 om.1 && Nat.blt a0 128) && (Nat.beq (gj_Y a1).1 0 && (Nat.blt a1 om.1 && Nat.blt a1 128)) && Nat.ble (gj_cat r) 8 then (¬ sp < 0 ∧ ¬ dp < 0 ∧ ¬ n < 0 ∧ sp.toNatClampNeg + n.toNatClampNeg ≤ (gj_Y a0).2 ∧ dp.toNatClampNeg + n.toNatClampNeg ≤ (gj_Y a1).2 ∧ kk r (gj_ua SI a1 (va_cpy (SI a0) (SI a1) sp.toNatClampNeg dp.toNatClampNeg n.toNatClampNeg))) else False)
  | _ => False
def gj_step (E : gj_E) (om : gj_Om) (Dz : Nat → List Value → gj_I → gj_J → (Option Value → gj_I → gj_J → Prop) → Prop) (K : Nat → gj_O → List Value → gj_I → gj_J → Prop) (Q : Option Value → gj_I → gj_J → Prop) (rec : gj_O → List Value → gj_I → gj_J → Prop) (pc : Nat) (i : Instr) (ax : Nat) (ls : gj_O) (st : List Value) (SI : gj_I) (SJ : gj_J) : Prop := match i with
  | .iconst v => rec ls (.int (Int32.ofInt v) :: st) SI SJ
  | .bipush v => rec ls (.int (Int8.ofInt v).toInt32 :: st) SI SJ
  | .sipush v => rec ls (.int (Int16.ofInt v).toInt32 :: st) SI SJ
  | .lconst v => rec ls (.long (Int64.ofNat v) :: st) SI SJ
  | .ldc _ => bif Nat.blt ax 4294967296 then rec ls (.int (Int32.ofNat ax) :: st) SI SJ else rec ls (.ref (ax - 4294967296) :: st) SI SJ
  | .ldc_w _ => rec ls (.int (Int32.ofNat ax) :: st) SI SJ
  | .ldc2_w _ => rec ls (.long (Int64.ofNat ax) :: st) SI SJ
  | .iload_n k => gj_gi ls k.val (fun x => rec ls (.int x :: st) SI SJ)
  | .iload k => gj_gi ls k (fun x => rec ls (.int x :: st) SI SJ)
  | .lload_n k => gj_gl ls k.val (fun x => rec ls (.long x :: st) SI SJ)
  | .lload k => gj_gl ls k (fun x => rec ls (.long x :: st) SI SJ)
  | .aload_n k => gj_ga ls k.val (fun x => rec ls (.ref x :: st) SI SJ)
  | .aload k => gj_ga ls k (fun x => rec ls (.ref x :: st) SI SJ)
  | .istore_n k => gj_i1 st (fun x r => gj_s1 ls k.val (.int x) (fun ls' => rec ls' r SI SJ))
  | .istore k => gj_i1 st (fun x r => gj_s1 ls k (.int x) (fun ls' => rec ls' r SI SJ))
  | .lstore_n k => gj_l1 st (fun x r => gj_s2 ls k.val (.long x) (fun ls' => rec ls' r SI SJ))
  | .lstore k => gj_l1 st (fun x r => gj_s2 ls k (.long x) (fun ls' => rec ls' r SI SJ))
  | .astore_n k => gj_r1 st (fun x r => gj_s1 ls k.val (.ref x) (fun ls' => rec ls' r SI SJ))
  | .astore k => gj_r1 st (fun x r => gj_s1 ls k (.ref x) (fun ls' => rec ls' r SI SJ))
  | .iinc k n => gj_gi ls k (fun x => gj_s1 ls k (.int (x + Int32.ofInt n)) (fun ls' => rec ls' st SI SJ))
  | .iadd => gj_i2 st (fun x y r => rec ls (.int (x + y) :: r) SI SJ)
  | .isub => gj_i2 st (fun x y r => rec ls (.int (x - y) :: r) SI SJ)
  | .imul => gj_i2 st (fun x y r => rec ls (.int (x * y) :: r) SI SJ)
  | .iand => gj_i2 st (fun x y r => rec ls (.int (x &&& y) :: r) SI SJ)
  | .ior => gj_i2 st (fun x y r => rec ls (.int (x ||| y) :: r) SI SJ)
  | .ixor => gj_i2 st (fun x y r => rec ls (.int (x ^^^ y) :: r) SI SJ)
  | .idiv => gj_i2 st (fun x y r => ¬ y = 0 ∧ rec ls (.int (x / y) :: r) SI SJ)
  | .irem => gj_i2 st (fun x y r => ¬ y = 0 ∧ rec ls (.int (x - x / y * y) :: r) SI SJ)
  | .ineg => gj_i1 st (fun x r => rec ls (.int (-x) :: r) SI SJ)
  | .ishl => gj_i2 st (fun x y r => rec ls (.int (x <<< (y &&& 31)) :: r) SI SJ)
  | .ishr => gj_i2 st (fun x y r => rec ls (.int (x >>> (y &&& 31)) :: r) SI SJ)
  | .iushr => gj_i2 st (fun x y r => rec ls (.int (x.toUInt32 >>> (y.toUInt32 &&& Int32.toUInt32 31)).toInt32 :: r) SI SJ)
  | .ladd => gj_l2 st (fun x y r => rec ls (.long (x + y) :: r) SI SJ)
  | .lsub => gj_l2 st (fun x y r => rec ls (.long (x - y) :: r) SI SJ)
  | .lmul => gj_l2 st (fun x y r => rec ls (.long (x * y) :: r) SI SJ)
  | .lor => gj_l2 st (fun x y r => rec ls (.long (x ||| y) :: r) SI SJ)
  | .ldiv => gj_l2 st (fun x y r => ¬ y = 0 ∧ rec ls (.long (x / y) :: r) SI SJ)
  | .lrem => gj_l2 st (fun x y r => ¬ y = 0 ∧ rec ls (.long (x - x / y * y) :: r) SI SJ)
  | .lneg => gj_l1 st (fun x r => rec ls (.long (-x) :: r) SI SJ)
  | .lushr => gj_li st (fun x y r => rec ls (.long (x.toUInt64 >>> (y.toInt64.toUInt64 &&& Int64.toUInt64 63)).toInt64 :: r) SI SJ)
  | .lshr => gj_li st (fun x y r => rec ls (.long (x >>> (y.toInt64 &&& 63)) :: r) SI SJ)
  | .lcmp => gj_l2 st (fun x y r => rec ls (.int (lg_cmp x y) :: r) SI SJ)
  | .i2l => gj_i1 st (fun x r => rec ls (.long x.toInt64 :: r) SI SJ)
  | .l2i => gj_l1 st (fun x r => rec ls (.int x.toInt32 :: r) SI SJ)
  | .i2b => gj_i1 st (fun x r => rec ls (.int x.toInt8.toInt32 :: r) SI SJ)
  | .i2c => gj_i1 st (fun x r => rec ls (.int (x.toUInt32 % 65536).toInt32 :: r) SI SJ)
  | .dup => (match st with
    | .int x :: r => rec ls (.int x :: .int x :: r) SI SJ
    | .ref x :: r => rec ls (.ref x :: .ref x :: r) SI SJ
    | _ => False)
  | .pop => (match st with
    | .int _ :: r => rec ls r SI SJ
    | _ => False)
  | .goto _ => K ax ls st SI SJ
  | .ifCond c _ => gj_i1 st (fun x r => (match c with
    | .eq => (x = 0 → K ax ls r SI SJ) ∧ (¬ x = 0 → rec ls r SI SJ)
    | .ne => (¬ x = 0 → K ax ls r SI SJ) ∧ (x = 0 → rec ls r SI SJ)
    | .lt => (x < 0 → K ax ls r SI SJ) ∧ (¬ x < 0 → rec ls r SI SJ)
    | .ge => (0 ≤ x → K ax ls r SI SJ) ∧ (¬ 0 ≤ x → rec ls r SI SJ)
    | .gt => (0 < x → K ax ls r SI SJ) ∧ (¬ 0 < x → rec ls r SI SJ)
    | .le => (x ≤ 0 → K ax ls r SI SJ) ∧ (¬ x ≤ 0 → rec ls r SI SJ)))
  | .if_icmp c _ => gj_i2 st (fun x y r => (match c with
    | .eq => (x = y → K ax ls r SI SJ) ∧ (¬ x = y → rec ls r SI SJ)
    | .ne => (¬ x = y → K ax ls r SI SJ) ∧ (x = y → rec ls r SI SJ)
    | .lt => (x < y → K ax ls r SI SJ) ∧ (¬ x < y → rec ls r SI SJ)
    | .ge => (y ≤ x → K ax ls r SI SJ) ∧ (¬ y ≤ x → rec ls r SI SJ)
    | .gt => (y < x → K ax ls r SI SJ) ∧ (¬ y < x → rec ls r SI SJ)
    | .le => (x ≤ y → K ax ls r SI SJ) ∧ (¬ x ≤ y → rec ls r SI SJ)))
  | .tableswitch dflt lo hi offs => gj_i1 st (fun x r => gj_sw pc lo offs.toList x (fun t => K t ls r SI SJ) ∧ (x.toInt < lo ∨ hi < x.toInt → K ((pc : Int) + dflt).toNat ls r SI SJ))
  | .ireturn => (match st with
    | [.int x] => (match ax with
      | 0 => Q (some (.int x)) SI SJ
      | 1 => (x = 0 ∨ x = 1) ∧ Q (some (.int x)) SI SJ
      | 2 => narrow .char (.int x) = .int x ∧ Q (some (.int x)) SI SJ
      | _ => narrow .byte (.int x) = .int x ∧ Q (some (.int x)) SI SJ)
    | _ => False)
  | .lreturn => (match st with
    | [.long x] => Q (some (.long x)) SI SJ
    | _ => False)
  | .return_ => (match st with
    | [] => Q none SI SJ
    | _ => False)
  | .invokevirtual _ => gj_pop (ax % 100) [] st (fun As r => bif Nat.ble (gj_cat r) 8 && gj_rcv om ax As then Dz (ax / 100 % 1000) As SI SJ (fun v SI' SJ' => rec ls (v.toList ++ r) SI' SJ') else False)
  | .invokestatic _ => (match ax / 100 % 1000 with
    | 900 => gj_i2 st (fun x y r => bif Nat.ble (gj_cat r) 8 then rec ls (.int (if x < y then y else x) :: r) SI SJ else False)
    | 901 => gj_i2 st (fun x y r => bif Nat.ble (gj_cat r) 8 then rec ls (.int (if y < x then y else x) :: r) SI SJ else False)
    | 902 => gj_i1 st (fun x r => bif Nat.ble (gj_cat r) 8 then rec ls (.int (if 0 ≤ x then x else 0 - x) :: r) SI SJ else False)
    | 903 => gj_l1 st (fun x r => bif Nat.ble (gj_cat r) 8 then rec ls (.long (if 0 < x then x else -x) :: r) SI SJ else False)
    | 904 => gj_cpy om SI st (fun r SI' => rec ls r SI' SJ)
    | 905 => False
    | mid => gj_pop (ax % 100) [] st (fun As r => bif Nat.ble (gj_cat r) 8 then Dz mid As SI SJ (fun v SI' SJ' => rec ls (v.toList ++ r) SI' SJ') else False))
  | .getfield _ => gj_r1 st (fun o r => gj_getf om SI SJ o ax (fun v => rec ls (v :: r) SI SJ))
  | .putfield _ => gj_putf om SI SJ ax st (fun r SI' SJ' => rec ls r SI' SJ')
  | .getstatic _ => bif Nat.blt ax 4 then rec ls (.ref (128 + ax) :: st) SI SJ else (bif Nat.beq ax 4 then rec ls (.int 1 :: st) SI SJ else rec ls (.null :: st) SI SJ ∧ rec ls (.ref 143 :: st) SI SJ)
  | .iaload => gj_ir st (fun i a r => gj_iald E om SI 0 a (fun n f => vp_in i n ∧ rec ls (.int (f i.toNatClampNeg) :: r) SI SJ))
  | .baload => gj_ir st (fun i a r => gj_iald E om SI 1 a (fun n f => vp_in i n ∧ rec ls (.int (f i.toNatClampNeg) :: r) SI SJ))
  | .laload => gj_ir st (fun i a r => gj_lald om SJ a (fun n f => vp_in i n ∧ rec ls (.long (f i.toNatClampNeg) :: r) SI SJ))
  | .iastore => (match st with
    | .int x :: .int i :: .ref a :: r => gj_iast om 0 a (fun n => vp_in i n ∧ rec ls r (gj_u2 SI a i.toNatClampNeg x) SJ)
    | _ => False)
  | .bastore => (match st with
    | .int x :: .int i :: .ref a :: r => gj_iast om 1 a (fun n => vp_in i n ∧ rec ls r (gj_u2 SI a i.toNatClampNeg x.toInt8.toInt32) SJ)
    | _ => False)
  | .lastore => (match st with
    | .long x :: .int i :: .ref a :: r => gj_iast om 2 a (fun n => vp_in i n ∧ rec ls r SI (gj_w2 SJ a i.toNatClampNeg x))
    | _ => False)
  | .arraylength => gj_r1 st (fun a r => gj_alen E om a (fun n => rec ls (.int (Int32.ofNat n) :: r) SI SJ))
  | _ => False
def gj_wp (E : gj_E) (om : gj_Om) (Dz : Nat → List Value → gj_I → gj_J → (Option Value → gj_I → gj_J → Prop) → Prop) (K : Nat → gj_O → List Value → gj_I → gj_J → Prop) (Q : Option Value → gj_I → gj_J → Prop) : List gj_C → gj_O → List Value → gj_I → gj_J → Prop
  | [] => fun _ _ _ _ => False
  | q :: cs => fun ls st SI SJ => gj_step E om Dz K Q (gj_wp E om Dz K Q cs) q.1 q.2.1 q.2.2.2 ls st SI SJ
