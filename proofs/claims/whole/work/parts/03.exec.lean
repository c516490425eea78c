/-! A machine of our own, over cells that are numbered from 0: what an instruction does to locals, operand stack and cells. The numbers of classes, fields, methods and constants come from the tables of part 02. -/
abbrev x_C : Type := (Nat × vp_A) ⊕ (Nat × List Value)
abbrev x_H : Type := (Nat → x_C) × Nat × Nat
abbrev x_L : Type := Nat → Option Value
abbrev x_Z : Type := Nat × (Nat → Int32)
abbrev x_S : Type := Option x_Z
def x_up (h : x_H) (a : Nat) (e : x_C) : x_H := (va_up h.1 a e, h.2.1, h.2.2)
def x_nw (h : x_H) (e : x_C) (k : Nat) : x_H := (va_up h.1 h.2.1 e, h.2.1 + 1, h.2.2 + k)
def x_get (h : x_H) (a : Nat) : Option x_C := if a < h.2.1 then some (h.1 a) else none
def x_k2 : Option Value → Option Value
  | some (.long _) => none
  | some (.double _) => none
  | o => o
def x_s1 (lv : x_L) (i : Nat) (v : Value) : x_L := fun j => if j = i then some v else if j + 1 = i then x_k2 (lv j) else lv j
def x_s2 (lv : x_L) (i : Nat) (v : Value) : x_L := fun j => if j = i then some v else if j = i + 1 then none else if j + 1 = i then x_k2 (lv j) else lv j
def x_en : Nat → List Value → x_L
  | _, [] => fun _ => none
  | i, v :: vs => fun j => if j = i then some v else x_en (if v.category = 2 then i + 2 else i + 1) vs j
def x_cs (st : List Value) : Nat := (st.map fun v => v.category).sum
def x_cc (c : Jvm.ClassFile.Cond) (x y : Int32) : Bool := match c with
  | .eq => decide (x = y)
  | .ne => decide (¬ x = y)
  | .lt => decide (x < y)
  | .ge => decide (y ≤ x)
  | .gt => decide (y < x)
  | .le => decide (x ≤ y)
def x_in (i : Int32) (n : Nat) : Bool := !decide (i < 0) && decide (i.toNatClampNeg < n)
def x_fit (ty : FieldType) (v : Value) : Bool := match ty, v with
  | .int, .int _ => true
  | .long, .long _ => true
  | .boolean, .int x => decide (x = 0) || decide (x = 1)
  | .object _, .ref _ => true
  | .array _, .ref _ => true
  | _, _ => false
/-- what only the operand stack sees -/
def x_i2 (f : Int32 → Int32 → Value) : List Value → Option (List Value)
  | .int y :: .int x :: r => some (f x y :: r)
  | _ => none
def x_l2 (f : Int64 → Int64 → Value) : List Value → Option (List Value)
  | .long y :: .long x :: r => some (f x y :: r)
  | _ => none
def x_li (f : Int64 → Int32 → Value) : List Value → Option (List Value)
  | .int y :: .long x :: r => some (f x y :: r)
  | _ => none
def x_i1 (f : Int32 → Value) : List Value → Option (List Value)
  | .int x :: r => some (f x :: r)
  | _ => none
def x_l1 (f : Int64 → Value) : List Value → Option (List Value)
  | .long x :: r => some (f x :: r)
  | _ => none
def x_idv (f : Int32 → Int32 → Value) : List Value → Option (List Value)
  | .int y :: .int x :: r => if y = 0 then none else some (f x y :: r)
  | _ => none
def x_ldv (f : Int64 → Int64 → Value) : List Value → Option (List Value)
  | .long y :: .long x :: r => if y = 0 then none else some (f x y :: r)
  | _ => none
def x_dup : List Value → Option (List Value)
  | v :: r => if v.category = 1 then some (v :: v :: r) else none
  | _ => none
def x_pp : List Value → Option (List Value)
  | v :: r => if v.category = 1 then some r else none
  | _ => none
def x_d2 : List Value → Option (List Value)
  | v :: w :: r => if v.category = 1 ∧ w.category = 1 then some (v :: w :: v :: w :: r) else none
  | _ => none
def x_dx1 : List Value → Option (List Value)
  | v :: w :: r => if v.category = 1 ∧ w.category = 1 then some (v :: w :: v :: r) else none
  | _ => none
def x_dx2 : List Value → Option (List Value)
  | v :: w :: u :: r => if v.category = 1 ∧ w.category = 1 ∧ u.category = 1 then some (v :: w :: u :: v :: r) else none
  | _ => none
def x_pop (i : Instr) (st : List Value) : Option (List Value) := match i with
  | .iconst n => some (.int (Int32.ofInt n) :: st)
  | .bipush n => some (.int (Int8.ofInt n).toInt32 :: st)
  | .sipush n => some (.int (Int16.ofInt n).toInt32 :: st)
  | .lconst n => some (.long (Int64.ofNat (n : Nat)) :: st)
  | .iadd => x_i2 (fun x y => .int (x + y)) st
  | .isub => x_i2 (fun x y => .int (x - y)) st
  | .imul => x_i2 (fun x y => .int (x * y)) st
  | .iand => x_i2 (fun x y => .int (x &&& y)) st
  | .ior => x_i2 (fun x y => .int (x ||| y)) st
  | .ixor => x_i2 (fun x y => .int (x ^^^ y)) st
  | .ishl => x_i2 (fun x y => .int (x <<< (y &&& 31))) st
  | .ishr => x_i2 (fun x y => .int (x >>> (y &&& 31))) st
  | .iushr => x_i2 (fun x y => .int (x.toUInt32 >>> (y.toUInt32 &&& Int32.toUInt32 31)).toInt32) st
  | .idiv => x_idv (fun x y => .int (x / y)) st
  | .irem => x_idv (fun x y => .int (x - x / y * y)) st
  | .ineg => x_i1 (fun x => .int (-x)) st
  | .i2l => x_i1 (fun x => .long x.toInt64) st
  | .i2b => x_i1 (fun x => .int x.toInt8.toInt32) st
  | .i2c => x_i1 (fun x => .int (x.toUInt32 % 65536).toInt32) st
  | .l2i => x_l1 (fun x => .int x.toInt32) st
  | .ladd => x_l2 (fun x y => .long (x + y)) st
  | .lsub => x_l2 (fun x y => .long (x - y)) st
  | .lmul => x_l2 (fun x y => .long (x * y)) st
  | .land => x_l2 (fun x y => .long (x &&& y)) st
  | .lor => x_l2 (fun x y => .long (x ||| y)) st
  | .ldiv => x_ldv (fun x y => .long (x / y)) st
  | .lrem => x_ldv (fun x y => .long (x - x / y * y)) st
  | .lcmp => x_l2 (fun x y => .int (lg_cmp x y)) st
  | .lshl => x_li (fun x y => .long (x <<< (y.toInt64 &&& 63))) st
  | .lshr => x_li (fun x y => .long (x >>> (y.toInt64 &&& 63))) st
  | .lushr => x_li (fun x y => .long (x.toUInt64 >>> (y.toInt64.toUInt64 &&& Int64.toUInt64 63)).toInt64) st
  | .dup => x_dup st
  | .pop => x_pp st
  | .dup2 => x_d2 st
  | .dup_x1 => x_dx1 st
  | .dup_x2 => x_dx2 st
  | _ => none
/-- loads and stores of locals -/
def x_ldi (o : Option Value) (st : List Value) : Option (List Value) := match o with
  | some (.int x) => some (.int x :: st)
  | _ => none
def x_ldl (o : Option Value) (st : List Value) : Option (List Value) := match o with
  | some (.long x) => some (.long x :: st)
  | _ => none
def x_lda (o : Option Value) (st : List Value) : Option (List Value) := match o with
  | some (.ref x) => some (.ref x :: st)
  | some (.retAddr x) => if x < 2000 then some (.retAddr x :: st) else none
  | _ => none
def x_lod (i : Instr) (lv : x_L) (st : List Value) : Option (List Value) := match i with
  | .iload j => x_ldi (lv j) st
  | .iload_n j => x_ldi (lv (j : Nat)) st
  | .lload j => x_ldl (lv j) st
  | .lload_n j => x_ldl (lv (j : Nat)) st
  | .aload j => x_lda (lv j) st
  | .aload_n j => x_lda (lv (j : Nat)) st
  | _ => none
def x_sti (nL i : Nat) (lv : x_L) (st : List Value) : Option (x_L × List Value) := match st with
  | .int x :: r => if i < nL then some (x_s1 lv i (.int x), r) else none
  | _ => none
def x_stl (nL i : Nat) (lv : x_L) (st : List Value) : Option (x_L × List Value) := match st with
  | .long x :: r => if i + 1 < nL then some (x_s2 lv i (.long x), r) else none
  | _ => none
def x_sta (nL i : Nat) (lv : x_L) (st : List Value) : Option (x_L × List Value) := match st with
  | .ref x :: r => if i < nL then some (x_s1 lv i (.ref x), r) else none
  | _ => none
def x_inc (nL i : Nat) (n : Int) (lv : x_L) (st : List Value) : Option (x_L × List Value) := match lv i with
  | some (.int x) => if i < nL then some (x_s1 lv i (.int (x + Int32.ofInt n)), st) else none
  | _ => none
def x_sto (nL : Nat) (i : Instr) (lv : x_L) (st : List Value) : Option (x_L × List Value) := match i with
  | .istore j => x_sti nL j lv st
  | .istore_n j => x_sti nL (j : Nat) lv st
  | .lstore j => x_stl nL j lv st
  | .lstore_n j => x_stl nL (j : Nat) lv st
  | .astore j => x_sta nL j lv st
  | .astore_n j => x_sta nL (j : Nat) lv st
  | .iinc j n => x_inc nL j n lv st
  | _ => none
/-- jumps: where to, and the stack behind -/
def x_gt (off : Int) (pc : Nat) (st : List Value) : Option (Nat × List Value) := if 0 ≤ (pc : Int) + off then some (((pc : Int) + off).toNat, st) else none
def x_if (c : Jvm.ClassFile.Cond) (off : Int) (pc : Nat) (st : List Value) : Option (Nat × List Value) := match st with
  | .int x :: r => if 0 ≤ (pc : Int) + off then (if x_cc c x 0 = true then some (((pc : Int) + off).toNat, r) else some (pc + 3, r)) else none
  | _ => none
def x_ic (c : Jvm.ClassFile.Cond) (off : Int) (pc : Nat) (st : List Value) : Option (Nat × List Value) := match st with
  | .int y :: .int x :: r => if 0 ≤ (pc : Int) + off then (if x_cc c x y = true then some (((pc : Int) + off).toNat, r) else some (pc + 3, r)) else none
  | _ => none
def x_ts (d lo hi : Int) (offs : Array Int) (pc : Nat) (st : List Value) : Option (Nat × List Value) := match st with
  | .int x :: r => if x.toInt < lo ∨ hi < x.toInt then x_gt d pc r else (match offs[(x.toInt - lo).toNat]? with
    | some off => x_gt off pc r
    | none => none)
  | _ => none
def x_jmp (i : Instr) (pc : Nat) (st : List Value) : Option (Nat × List Value) := match i with
  | .goto off => x_gt off pc st
  | .ifCond c off => x_if c off pc st
  | .if_icmp c off => x_ic c off pc st
  | .tableswitch d lo hi offs => x_ts d lo hi offs pc st
  | _ => none
/-- reads of cells -/
def x_gf (k idx : Nat) (st : List Value) (h : x_H) : Option (List Value) := match st with
  | .ref a :: r => (match x_get h a with
    | some (.inr (ci, fs)) => (match x_fld k idx with
      | some (cj, sl, _, _) => if ci = cj then (match fs[sl]? with
        | some v => some (v :: r)
        | none => none) else none
      | none => none)
    | _ => none)
  | _ => none
def x_ia (sc : x_S) (st : List Value) (h : x_H) : Option (List Value) := match st with
  | .int j :: .ref a :: r => (match x_get h a with
    | some (.inl (t, n, .inl f)) => if t = 0 ∧ x_in j n = true then some (.int (f j.toNatClampNeg) :: r) else none
    | _ => none)
  | .int j :: .retAddr q :: r => (match sc with
    | some z => if q = 0 ∧ x_in j z.1 = true then some (.int (z.2 j.toNatClampNeg) :: r) else none
    | none => none)
  | _ => none
def x_la (st : List Value) (h : x_H) : Option (List Value) := match st with
  | .int j :: .ref a :: r => (match x_get h a with
    | some (.inl (t, n, .inr (.inl f))) => if t = 1 ∧ x_in j n = true then some (.long (f j.toNatClampNeg) :: r) else none
    | _ => none)
  | _ => none
def x_ca (tt : Nat) (st : List Value) (h : x_H) : Option (List Value) := match st with
  | .int j :: .ref a :: r => (match x_get h a with
    | some (.inl (t, n, .inl f)) => if t = tt ∧ x_in j n = true then some (.int (f j.toNatClampNeg) :: r) else none
    | _ => none)
  | _ => none
def x_aa (st : List Value) (h : x_H) : Option (List Value) := match st with
  | .int j :: .ref a :: r => (match x_get h a with
    | some (.inl (t, n, .inr (.inr (.inr (.inr f))))) => (match x_cp t with
      | some _ => if x_in j n = true then some (va_rf (f j.toNatClampNeg) :: r) else none
      | none => none)
    | _ => none)
  | _ => none
def x_al (sc : x_S) (st : List Value) (h : x_H) : Option (List Value) := match st with
  | .ref a :: r => (match x_get h a with
    | some (.inl (t, n, _)) => if t < x_ty.length then some (.int (Int32.ofNat n) :: r) else none
    | _ => none)
  | .retAddr q :: r => (match sc with
    | some z => if q = 0 then some (.int (Int32.ofNat z.1) :: r) else none
    | none => none)
  | _ => none
def x_lc (k idx : Nat) (st : List Value) : Option (List Value) := match x_con k idx with
  | some (.int v) => some (.int v :: st)
  | _ => none
def x_lcs (k idx : Nat) (st : List Value) : Option (List Value) := match x_con k idx with
  | some (.retAddr v) => some (.retAddr v :: st)
  | _ => none
/-- String constants: .retAddr (1 + i), their bytes .retAddr (1000 + i) -/
def x_sg (k idx : Nat) (st : List Value) : Option (List Value) := match st with
  | .retAddr q :: r => (match x_sfl k idx with
    | some c => if 1 ≤ q ∧ q < 1 + x_gn then (if c = 0 then some (.retAddr (999 + q) :: r) else some (.int 0 :: r)) else none
    | none => none)
  | _ => none
def x_bb (st : List Value) : Option (List Value) := match st with
  | .int j :: .retAddr q :: r => if 1000 ≤ q ∧ q < 1000 + x_gn ∧ x_in j (x_gl.getD (q - 1000) 0) = true then some (.int ((x_gb.getD (q - 1000) []).getD j.toNatClampNeg 0) :: r) else none
  | _ => none
def x_bl (st : List Value) : Option (List Value) := match st with
  | .retAddr q :: r => if 1000 ≤ q ∧ q < 1000 + x_gn then some (.int (Int32.ofNat (x_gl.getD (q - 1000) 0)) :: r) else none
  | _ => none
def x_gs (k idx : Nat) (st : List Value) : Option (List Value) := match x_stt k idx with
  | some c => if c = 0 then some (.int 1 :: st) else some (.retAddr 2000 :: st)
  | none => none
def x_or {α : Type} (a b : Option α) : Option α := match a with
  | some x => some x
  | none => b
def x_ll2 (k idx : Nat) (st : List Value) : Option (List Value) := match x_con k idx with
  | some (.long v) => some (.long v :: st)
  | _ => none
def x_rd (sc : x_S) (k : Nat) (i : Instr) (st : List Value) (h : x_H) : Option (List Value) := match i with
  | .getfield idx => x_or (x_gf k idx st h) (x_sg k idx st)
  | .getstatic idx => x_gs k idx st
  | .iaload => x_ia sc st h
  | .laload => x_la st h
  | .caload => x_ca 2 st h
  | .baload => x_or (x_ca 3 st h) (x_bb st)
  | .aaload => x_aa st h
  | .arraylength => x_or (x_al sc st h) (x_bl st)
  | .ldc idx => x_or (x_lc k idx st) (x_lcs k idx st)
  | .ldc_w idx => x_lc k idx st
  | .ldc2_w idx => x_ll2 k idx st
  | _ => none
/-- writes to cells -/
def x_pf (k idx : Nat) (st : List Value) (h : x_H) : Option (List Value × x_H) := match st with
  | v :: .ref a :: r => (match x_get h a with
    | some (.inr (ci, fs)) => (match x_fld k idx with
      | some (cj, sl, ty, fl) => if ci = cj ∧ x_fit ty v = true ∧ sl < fs.length ∧ fl < 2 then some (r, x_up h a (.inr (ci, fs.set sl v))) else none
      | none => none)
    | _ => none)
  | _ => none
def x_is (tt : Nat) (g : Int32 → Int32) (st : List Value) (h : x_H) : Option (List Value × x_H) := match st with
  | .int x :: .int j :: .ref a :: r => (match x_get h a with
    | some (.inl (t, n, .inl f)) => if t = tt ∧ x_in j n = true then some (r, x_up h a (.inl (tt, n, .inl (upd f j.toNatClampNeg (g x))))) else none
    | _ => none)
  | _ => none
def x_ls (st : List Value) (h : x_H) : Option (List Value × x_H) := match st with
  | .long x :: .int j :: .ref a :: r => (match x_get h a with
    | some (.inl (t, n, .inr (.inl f))) => if t = 1 ∧ x_in j n = true then some (r, x_up h a (.inl (1, n, .inr (.inl (vp_updL f j.toNatClampNeg x))))) else none
    | _ => none)
  | _ => none
def x_as (st : List Value) (h : x_H) : Option (List Value × x_H) := match st with
  | .ref v :: .int j :: .ref a :: r => (match x_get h a with
    | some (.inl (t, n, .inr (.inr (.inr (.inr f))))) => (match x_get h v with
      | some (.inr (ci, _)) => if x_in j n = true ∧ x_cp t = some ci then some (r, x_up h a (.inl (t, n, .inr (.inr (.inr (.inr (va_up f j.toNatClampNeg (some v)))))))) else none
      | _ => none)
    | _ => none)
  | _ => none
/-- System.arraycopy of ints, of longs -/
def x_aok2 (d kd : Nat) (r : List Value) (sp dp n : Int32) (n0 n1 : Nat) : Bool := decide (kd = 8) && (decide (¬ d = 0) && (decide (x_cs r ≤ 8) && (decide (¬ sp < 0) && (decide (¬ dp < 0) && (decide (¬ n < 0) && (decide (sp.toNatClampNeg + n.toNatClampNeg ≤ n0) && decide (dp.toNatClampNeg + n.toNatClampNeg ≤ n1)))))))
def x_aci (d k idx : Nat) (st : List Value) (h : x_H) : Option (List Value × x_H) := match st with
  | .int n :: .int dp :: .ref a1 :: .int sp :: .ref a0 :: r => (match x_mth k idx with
    | some (_, kd, _) => (match x_get h a0 with
      | some (.inl (t0, n0, .inl f)) => (match x_get h a1 with
        | some (.inl (t1, n1, .inl g)) => if t0 = 0 ∧ t1 = 0 ∧ x_aok2 d kd r sp dp n n0 n1 = true then some (r, x_up h a1 (.inl (0, n1, .inl (va_cpy f g sp.toNatClampNeg dp.toNatClampNeg n.toNatClampNeg)))) else none
        | _ => none)
      | _ => none)
    | _ => none)
  | _ => none
def x_acl (d k idx : Nat) (st : List Value) (h : x_H) : Option (List Value × x_H) := match st with
  | .int n :: .int dp :: .ref a1 :: .int sp :: .ref a0 :: r => (match x_mth k idx with
    | some (_, kd, _) => (match x_get h a0 with
      | some (.inl (t0, n0, .inr (.inl f))) => (match x_get h a1 with
        | some (.inl (t1, n1, .inr (.inl g))) => if t0 = 1 ∧ t1 = 1 ∧ x_aok2 d kd r sp dp n n0 n1 = true then some (r, x_up h a1 (.inl (1, n1, .inr (.inl (va_cpy f g sp.toNatClampNeg dp.toNatClampNeg n.toNatClampNeg))))) else none
        | _ => none)
      | _ => none)
    | _ => none)
  | _ => none
def x_wr (d k : Nat) (i : Instr) (st : List Value) (h : x_H) : Option (List Value × x_H) := match i with
  | .invokestatic idx => x_or (x_aci d k idx st h) (x_acl d k idx st h)
  | .putfield idx => x_pf k idx st h
  | .iastore => x_is 0 (fun x => x) st h
  | .lastore => x_ls st h
  | .castore => x_is 2 (vp_nar .char) st h
  | .bastore => x_is 3 (vp_nar .boolean) st h
  | .aastore => x_as st h
  | _ => none
/-- new cells -/
def x_a0 (a : Jvm.ClassFile.ArrayType) (n : Nat) : Option x_C := match a with
  | .int => some (.inl (0, n, .inl (fun _ => 0)))
  | .long => some (.inl (1, n, .inr (.inl (fun _ => 0))))
  | .char => some (.inl (2, n, .inl (fun _ => 0)))
  | .boolean => some (.inl (3, n, .inl (fun _ => 0)))
  | _ => none
def x_no (k idx : Nat) (st : List Value) (h : x_H) : Option (List Value × x_H) := match x_cls k idx with
  | some (ci, fs) => some (.ref h.2.1 :: st, x_nw h (.inr (ci, fs)) fs.length)
  | none => none
def x_na (ty : Jvm.ClassFile.ArrayType) (st : List Value) (h : x_H) : Option (List Value × x_H) := match st with
  | .int n :: r => if n < 0 ∨ 65536 < n.toNatClampNeg then none else (match x_a0 ty n.toNatClampNeg with
    | some e => some (.ref h.2.1 :: r, x_nw h e n.toNatClampNeg)
    | none => none)
  | _ => none
def x_nr (k idx : Nat) (st : List Value) (h : x_H) : Option (List Value × x_H) := match st with
  | .int n :: r => if n < 0 ∨ 65536 < n.toNatClampNeg then none else (match x_anw k idx with
    | some t => some (.ref h.2.1 :: r, x_nw h (.inl (t, n.toNatClampNeg, .inr (.inr (.inr (.inr (fun _ => none)))))) n.toNatClampNeg)
    | none => none)
  | _ => none
def x_mk (k : Nat) (i : Instr) (st : List Value) (h : x_H) : Option (List Value × x_H) := match i with
  | .new idx => x_no k idx st h
  | .newarray ty => x_na ty st h
  | .anewarray idx => x_nr k idx st h
  | _ => none
/-- ends -/
def x_ri (rt : Option FieldType) (st : List Value) : Option (Option Value) := match st with
  | [.int x] => (match rt with
    | some .int => some (some (.int x))
    | some .boolean => if x &&& 1 = x then some (some (.int x)) else none
    | some .char => if vp_nar .char x = x then some (some (.int x)) else none
    | some .byte => if vp_nar .byte x = x then some (some (.int x)) else none
    | _ => none)
  | _ => none
def x_rl (rt : Option FieldType) (st : List Value) : Option (Option Value) := match st with
  | [.long x] => (match rt with
    | some .long => some (some (.long x))
    | _ => none)
  | _ => none
def x_ra (rt : Option FieldType) (st : List Value) : Option (Option Value) := match st with
  | [.ref a] => (match rt with
    | some (.object _) => some (some (.ref a))
    | some (.array _) => some (some (.ref a))
    | _ => none)
  | _ => none
def x_rv (rt : Option FieldType) (st : List Value) : Option (Option Value) := match st with
  | [] => (match rt with
    | none => some none
    | _ => none)
  | _ => none
def x_end (k : Nat) (i : Instr) (st : List Value) : Option (Option Value) := match i with
  | .ireturn => x_ri (x_rt k) st
  | .lreturn => x_rl (x_rt k) st
  | .areturn => x_ra (x_rt k) st
  | .return_ => x_rv (x_rt k) st
  | _ => none
/-- calls: the callee, its arguments, what stays on the stack -/
def x_c0 (k idx : Nat) (st : List Value) : Option (Nat × List Value × List Value) := match x_mth k idx with
  | some (kc, kd, n) => if kd = 0 ∧ n ≤ st.length ∧ x_cs (st.drop n) ≤ 8 then some (kc, (st.take n).reverse, st.drop n) else none
  | _ => none
def x_c1 (k idx : Nat) (st : List Value) (h : x_H) : Option (Nat × List Value × List Value) := match x_mth k idx with
  | some (kc, kd, n) => if kd = 1 ∧ n ≤ st.length then (match st.drop n with
    | .ref a :: r => (match x_get h a with
      | some (.inr (ci, _)) => if ci = x_own kc ∧ x_cs r ≤ 8 then some (kc, .ref a :: (st.take n).reverse, r) else none
      | _ => none)
    | _ => none) else none
  | _ => none
def x_c2 (k idx : Nat) (st : List Value) : Option (Nat × List Value × List Value) := match x_mth k idx with
  | some (kc, kd, n) => if kd = 2 ∧ n ≤ st.length then (match st.drop n with
    | .ref a :: r => if x_cs r ≤ 8 then some (kc, .ref a :: (st.take n).reverse, r) else none
    | _ => none) else none
  | _ => none
def x_c7 (k idx : Nat) (st : List Value) : Option (Nat × List Value × List Value) := match x_mth k idx with
  | some (kc, kd, n) => if kd = 7 ∧ n ≤ st.length then (match st.drop n with
    | .retAddr q :: r => if 1 ≤ q ∧ q < 1 + x_gn ∧ x_cs r ≤ 8 then some (kc, .retAddr q :: (st.take n).reverse, r) else none
    | _ => none) else none
  | _ => none
def x_cal (k : Nat) (i : Instr) (st : List Value) (h : x_H) : Option (Nat × List Value × List Value) := match i with
  | .invokestatic idx => x_c0 k idx st
  | .invokevirtual idx => x_or (x_c1 k idx st h) (x_c7 k idx st)
  | .invokespecial idx => x_c2 k idx st
  | _ => none
/-- calls that are done at once: Object's constructor, Math.min -/
def x_oi (d k idx : Nat) (st : List Value) : Option (List Value) := match x_mth k idx with
  | some (_, kd, _) => (match st with
    | .ref _ :: r => if kd = 3 ∧ ¬ d = 0 ∧ x_cs r ≤ 8 then some r else none
    | _ => none)
  | _ => none
def x_mm (d k idx : Nat) (st : List Value) : Option (List Value) := match x_mth k idx with
  | some (_, kd, _) => (match st with
    | .int y :: .int x :: r => if kd = 4 ∧ ¬ d = 0 ∧ x_cs r ≤ 8 then some (.int (if y < x then y else x) :: r) else none
    | _ => none)
  | _ => none
def x_mx (d k idx : Nat) (st : List Value) : Option (List Value) := match x_mth k idx with
  | some (_, kd, _) => (match st with
    | .int y :: .int x :: r => if kd = 6 ∧ ¬ d = 0 ∧ x_cs r ≤ 8 then some (.int (if x < y then y else x) :: r) else none
    | _ => none)
  | _ => none
def x_now (d k : Nat) (i : Instr) (st : List Value) : Option (List Value) := match i with
  | .invokespecial idx => x_oi d k idx st
  | .invokestatic idx => x_or (x_mm d k idx st) (x_mx d k idx st)
  | _ => none
/-- one instruction that stays in the method -/
def x_one (sc : x_S) (d k : Nat) (i : Instr) (pc : Nat) (lv : x_L) (st : List Value) (h : x_H) : Option (Nat × x_L × List Value × x_H) :=
  match x_pop i st with
  | some st' => some (pc + x_len i, lv, st', h)
  | none => match x_lod i lv st with
    | some st' => some (pc + x_len i, lv, st', h)
    | none => match x_sto (x_nL k) i lv st with
      | some (lv', st') => some (pc + x_len i, lv', st', h)
      | none => match x_jmp i pc st with
        | some (pc', st') => some (pc', lv, st', h)
        | none => match x_rd sc k i st h with
          | some st' => some (pc + x_len i, lv, st', h)
          | none => match x_wr d k i st h with
            | some (st', h') => some (pc + x_len i, lv, st', h')
            | none => match x_mk k i st h with
              | some (st', h') => some (pc + x_len i, lv, st', h')
              | none => match x_now d k i st with
                | some st' => some (pc + 3, lv, st', h)
                | none => none
abbrev x_F : Type := Nat → Nat → Nat → x_L → List Value → x_H → Option (Option Value × x_H)
def x_bd (sc : x_S) (F : x_F) (d k pc : Nat) (lv : x_L) (st : List Value) (h : x_H) : Option (Option Value × x_H) := match x_ins k pc with
  | none => none
  | some i => match x_one sc d k i pc lv st h with
    | some (pc', lv', st', h') => F d k pc' lv' st' h'
    | none => match x_end k i st with
      | some r => some (r, h)
      | none => match x_cal k i st h with
        | some (kc, as, r) => if x_cs as ≤ x_nL kc then (match d with
          | 0 => none
          | d' + 1 => match F d' kc 0 (x_en 0 as) [] h with
            | some (v, h') => F (d' + 1) k (pc + 3) lv (v.toList ++ r) h'
            | none => none) else none
        | none => none
def x_run (sc : x_S) : Nat → x_F
  | 0 => fun _ _ _ _ _ _ => none
  | f + 1 => fun d k pc lv st h => x_bd sc (x_run sc f) d k pc lv st h
