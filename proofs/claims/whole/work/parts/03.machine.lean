/-! THE LITTLE MACHINE: a machine of bytecode with resolved operands, over a memory of numbered cells: a kind for each cell (which never changes), and its contents by type. A run of it is one of the real machine (part 05). -/
/-- next free cell; kinds (class number, or 100 + array sort, and length); ints; longs; doubles; references -/
abbrev xm_H : Type := Nat × (Nat → Nat × Nat) × (Nat → Nat → Int32) × (Nat → Nat → Int64) × (Nat → Nat → UInt64) × (Nat → Nat → Option Nat)
def xm_n (h : xm_H) : Nat := h.1
def xm_k (h : xm_H) (a : Nat) : Nat × Nat := h.2.1 a
def xm_i (h : xm_H) (a k : Nat) : Int32 := h.2.2.1 a k
def xm_l (h : xm_H) (a k : Nat) : Int64 := h.2.2.2.1 a k
def xm_d (h : xm_H) (a k : Nat) : UInt64 := h.2.2.2.2.1 a k
def xm_r (h : xm_H) (a k : Nat) : Option Nat := h.2.2.2.2.2 a k
def xm_u2 {α : Type} (f : Nat → Nat → α) (a k : Nat) (v : α) : Nat → Nat → α := fun b j => if b = a ∧ j = k then v else f b j
def xm_si (h : xm_H) (a k : Nat) (v : Int32) : xm_H := (h.1, h.2.1, xm_u2 h.2.2.1 a k v, h.2.2.2)
def xm_sl (h : xm_H) (a k : Nat) (v : Int64) : xm_H := (h.1, h.2.1, h.2.2.1, xm_u2 h.2.2.2.1 a k v, h.2.2.2.2)
def xm_sd (h : xm_H) (a k : Nat) (v : UInt64) : xm_H := (h.1, h.2.1, h.2.2.1, h.2.2.2.1, xm_u2 h.2.2.2.2.1 a k v, h.2.2.2.2.2)
def xm_sr (h : xm_H) (a k : Nat) (v : Option Nat) : xm_H := (h.1, h.2.1, h.2.2.1, h.2.2.2.1, h.2.2.2.2.1, xm_u2 h.2.2.2.2.2 a k v)
def xm_z {α : Type} (f : Nat → Nat → α) (a : Nat) (v : α) : Nat → Nat → α := fun b j => if b = a then v else f b j
def xm_new (h : xm_H) (κ : Nat × Nat) : xm_H := (h.1 + 1, fun b => if b = h.1 then κ else h.2.1 b, xm_z h.2.2.1 h.1 0, xm_z h.2.2.2.1 h.1 0, xm_z h.2.2.2.2.1 h.1 0, xm_z h.2.2.2.2.2 h.1 none)
/-- ints copied from row a to row b -/
def xm_cp (h : xm_H) (a p b q n : Nat) : xm_H := (h.1, h.2.1, fun c j => if c = b ∧ q ≤ j ∧ j < q + n then h.2.2.1 a (p + (j - q)) else h.2.2.1 c j, h.2.2.2)
/-- sorts of values: 0 int, 1 boolean, 2 byte, 3 char, 4 long, 5 double, 6 reference -/
def xm_get (τ : Nat) (h : xm_H) (a k : Nat) : Value := match τ with
  | 4 => .long (xm_l h a k)
  | 5 => .double (xm_d h a k)
  | 6 => va_rf (xm_r h a k)
  | _ => .int (xm_i h a k)
def xm_ty (τ : Nat) : FieldType := match τ with
  | 0 => .int
  | 1 => .boolean
  | 2 => .byte
  | 3 => .char
  | 4 => .long
  | _ => .double
abbrev xm_L : Type := List (Option Value)
abbrev xm_O : Type := Option Value ⊕ Nat × Nat
/-- an entry: instruction, mask of the locals that live here (at cut points), resolved operands, constant -/
abbrev xm_E : Type := Instr × Option (List Bool) × List Nat × Value
/-- a method: its entries in rows of 64 bytes; its exception table with class numbers; its name, bytes, locals, result -/
abbrev xm_M : Type := List (List (Nat × xm_E)) × List (Nat × Nat × Nat × Nat × Nat) × MethodName × ByteArray × Nat × Option FieldType
def xm_at (M : xm_M) (pc : Nat) : Option xm_E := match M.1[pc / 64]? with
  | some l => l.lookup pc
  | none => none
def xm_mk (m : Option (List Bool)) (ls : xm_L) : xm_L := match m with
  | none => ls
  | some m => List.zipWith (fun b v => if b = true then v else none) m ls
def xm_ld (ls : xm_L) (i : Nat) : Option Value := match ls[i]? with
  | some v => v
  | none => none
/-- what stands before a stored local, if it is a long's first half, is gone -/
def xm_kill (ls : xm_L) (i : Nat) : xm_L := match i with
  | 0 => ls
  | j + 1 => match ls[j]? with
    | some (some (.long _)) => ls.set j none
    | some (some (.double _)) => ls.set j none
    | _ => ls
def xm_st (ls : xm_L) (i : Nat) (v : Value) : xm_L := (xm_kill ls i).set i (some v)
def xm_st2 (ls : xm_L) (i : Nat) (v : Value) : xm_L := ((xm_kill ls i).set i (some v)).set (i + 1) none
def xm_cb (c : Jvm.ClassFile.Cond) (x y : Int32) : Bool := match c with
  | .eq => decide (x = y)
  | .ne => decide (¬ x = y)
  | .lt => decide (x < y)
  | .ge => decide (y ≤ x)
  | .gt => decide (y < x)
  | .le => decide (x ≤ y)
/-- how many cells are the law's own from the start: constants -/
abbrev xK : Nat := 160
abbrev xm_R1 : Type := Option (Prop × Nat × xm_L × List Value × xm_H)
def xm_ok (pc : Nat) (ls : xm_L) (st : List Value) (h : xm_H) : xm_R1 := some (True, pc, ls, st, h)
def xm_p0 (pl : List Nat) (j : Nat) : Nat := pl.getD j 0
/-- a local is loaded -/
def xm_gl (pc i : Nat) (τ : Nat) (ls : xm_L) (st : List Value) (h : xm_H) : xm_R1 := match τ, xm_ld ls i with
  | 0, some (.int x) => xm_ok pc ls (.int x :: st) h
  | 1, some (.long x) => xm_ok pc ls (.long x :: st) h
  | 2, some (.double x) => xm_ok pc ls (.double x :: st) h
  | 3, some (.ref x) => xm_ok pc ls (.ref x :: st) h
  | 3, some .null => xm_ok pc ls (.null :: st) h
  | _, _ => none
/-- ... and stored -/
def xm_pl (pc i : Nat) (τ : Nat) (ls : xm_L) (st : List Value) (h : xm_H) : xm_R1 := match τ, st with
  | 0, .int x :: r => some (i < ls.length, pc, xm_st ls i (.int x), r, h)
  | 1, .long x :: r => some (i + 1 < ls.length, pc, xm_st2 ls i (.long x), r, h)
  | 2, .double x :: r => some (i + 1 < ls.length, pc, xm_st2 ls i (.double x), r, h)
  | 3, .ref x :: r => some (i < ls.length, pc, xm_st ls i (.ref x), r, h)
  | 3, .null :: r => some (i < ls.length, pc, xm_st ls i .null, r, h)
  | _, _ => none
def xm_ii (f : Int32 → Int32 → Int32) (pc : Nat) (ls : xm_L) (st : List Value) (h : xm_H) : xm_R1 := match st with
  | .int y :: .int x :: r => xm_ok (pc + 1) ls (.int (f x y) :: r) h
  | _ => none
def xm_id (f : Int32 → Int32 → Int32) (pc : Nat) (ls : xm_L) (st : List Value) (h : xm_H) : xm_R1 := match st with
  | .int y :: .int x :: r => some (¬ y = 0, pc + 1, ls, .int (f x y) :: r, h)
  | _ => none
def xm_i1 (f : Int32 → Value) (pc : Nat) (ls : xm_L) (st : List Value) (h : xm_H) : xm_R1 := match st with
  | .int x :: r => xm_ok (pc + 1) ls (f x :: r) h
  | _ => none
def xm_ll (f : Int64 → Int64 → Int64) (pc : Nat) (ls : xm_L) (st : List Value) (h : xm_H) : xm_R1 := match st with
  | .long y :: .long x :: r => xm_ok (pc + 1) ls (.long (f x y) :: r) h
  | _ => none
def xm_ldd (f : Int64 → Int64 → Int64) (pc : Nat) (ls : xm_L) (st : List Value) (h : xm_H) : xm_R1 := match st with
  | .long y :: .long x :: r => some (¬ y = 0, pc + 1, ls, .long (f x y) :: r, h)
  | _ => none
def xm_dd (f : UInt64 → UInt64 → UInt64) (pc : Nat) (ls : xm_L) (st : List Value) (h : xm_H) : xm_R1 := match st with
  | .double y :: .double x :: r => some (vf_n64 (f x y), pc + 1, ls, .double (f x y) :: r, h)
  | _ => none
/-- an element of a row is loaded: t the row's kind -/
def xm_al (t τ : Nat) (pc : Nat) (ls : xm_L) (st : List Value) (h : xm_H) : xm_R1 := match st with
  | .int j :: .ref a :: r => some ((xm_k h a).1 = t ∧ vp_in j (xm_k h a).2, pc + 1, ls, xm_get τ h a j.toNatClampNeg :: r, h)
  | _ => none
def xm_as (t : Nat) (f : Int32 → Int32) (pc : Nat) (ls : xm_L) (st : List Value) (h : xm_H) : xm_R1 := match st with
  | .int x :: .int j :: .ref a :: r => some ((xm_k h a).1 = t ∧ vp_in j (xm_k h a).2 ∧ xK ≤ a, pc + 1, ls, r, xm_si h a j.toNatClampNeg (f x))
  | _ => none
/-- a value put into a field of sort τ -/
def xm_pf (τ : Nat) (h : xm_H) (a k : Nat) (v : Value) : Option (Prop × xm_H) := match τ, v with
  | 0, .int x => some (True, xm_si h a k x)
  | 1, .int x => some (narrow .boolean (.int x) = .int x ∧ fits .boolean (.int x) = true, xm_si h a k x)
  | 2, .int x => some (narrow .byte (.int x) = .int x ∧ fits .byte (.int x) = true, xm_si h a k x)
  | 3, .int x => some (narrow .char (.int x) = .int x ∧ fits .char (.int x) = true, xm_si h a k x)
  | 4, .long x => some (True, xm_sl h a k x)
  | 5, .double x => some (True, xm_sd h a k x)
  | 6, .ref b => some (True, xm_sr h a k (some b))
  | 6, .null => some (True, xm_sr h a k none)
  | _, _ => none
def xm_br (b : Bool) (t pc : Nat) : Nat := match b with
  | true => t
  | false => pc + 3
/-- one instruction that has one successor -/
def xm_G (i : Instr) (pl : List Nat) (cv : Value) (pc : Nat) (ls : xm_L) (st : List Value) (h : xm_H) : xm_R1 := match i with
  | .aconst_null => xm_ok (pc + 1) ls (.null :: st) h
  | .iconst n => xm_ok (pc + 1) ls (.int (Int32.ofInt n) :: st) h
  | .bipush n => xm_ok (pc + 2) ls (.int (Int8.ofInt n).toInt32 :: st) h
  | .sipush n => xm_ok (pc + 3) ls (.int (Int16.ofInt n).toInt32 :: st) h
  | .lconst n => xm_ok (pc + 1) ls (.long (Int64.ofNat (n : Nat)) :: st) h
  | .dconst n => match n with
    | 0 => xm_ok (pc + 1) ls (.double FP.dconst0 :: st) h
    | _ => none
  | .ldc _ => xm_ok (pc + 2) ls (cv :: st) h
  | .ldc_w _ => xm_ok (pc + 3) ls (cv :: st) h
  | .ldc2_w _ => xm_ok (pc + 3) ls (cv :: st) h
  | .iload_n k => xm_gl (pc + 1) k 0 ls st h
  | .iload k => xm_gl (pc + 2) k 0 ls st h
  | .lload_n k => xm_gl (pc + 1) k 1 ls st h
  | .lload k => xm_gl (pc + 2) k 1 ls st h
  | .dload_n k => xm_gl (pc + 1) k 2 ls st h
  | .dload k => xm_gl (pc + 2) k 2 ls st h
  | .aload_n k => xm_gl (pc + 1) k 3 ls st h
  | .aload k => xm_gl (pc + 2) k 3 ls st h
  | .istore_n k => xm_pl (pc + 1) k 0 ls st h
  | .istore k => xm_pl (pc + 2) k 0 ls st h
  | .lstore_n k => xm_pl (pc + 1) k 1 ls st h
  | .lstore k => xm_pl (pc + 2) k 1 ls st h
  | .dstore_n k => xm_pl (pc + 1) k 2 ls st h
  | .dstore k => xm_pl (pc + 2) k 2 ls st h
  | .astore_n k => xm_pl (pc + 1) k 3 ls st h
  | .astore k => xm_pl (pc + 2) k 3 ls st h
  | .iinc k n => match xm_ld ls k with
    | some (.int x) => some (k < ls.length, pc + 3, xm_st ls k (.int (x + Int32.ofInt n)), st, h)
    | _ => none
  | .iadd => xm_ii (fun x y => x + y) pc ls st h
  | .isub => xm_ii (fun x y => x - y) pc ls st h
  | .imul => xm_ii (fun x y => x * y) pc ls st h
  | .iand => xm_ii (fun x y => x &&& y) pc ls st h
  | .ior => xm_ii (fun x y => x ||| y) pc ls st h
  | .ishl => xm_ii (fun x y => x <<< (y &&& 31)) pc ls st h
  | .ishr => xm_ii (fun x y => x >>> (y &&& 31)) pc ls st h
  | .iushr => xm_ii (fun x y => (x.toUInt32 >>> (y.toUInt32 &&& Int32.toUInt32 31)).toInt32) pc ls st h
  | .idiv => xm_id (fun x y => x / y) pc ls st h
  | .irem => xm_id (fun x y => x - x / y * y) pc ls st h
  | .ineg => xm_i1 (fun x => .int (-x)) pc ls st h
  | .i2b => xm_i1 (fun x => .int x.toInt8.toInt32) pc ls st h
  | .i2c => xm_i1 (fun x => .int (x.toUInt32 % 65536).toInt32) pc ls st h
  | .i2l => xm_i1 (fun x => .long x.toInt64) pc ls st h
  | .i2d => xm_i1 (fun x => .double (FP.i2d x)) pc ls st h
  | .l2i => match st with
    | .long x :: r => xm_ok (pc + 1) ls (.int x.toInt32 :: r) h
    | _ => none
  | .ladd => xm_ll (fun x y => x + y) pc ls st h
  | .lsub => xm_ll (fun x y => x - y) pc ls st h
  | .lmul => xm_ll (fun x y => x * y) pc ls st h
  | .ldiv => xm_ldd (fun x y => x / y) pc ls st h
  | .lrem => xm_ldd (fun x y => x - x / y * y) pc ls st h
  | .dadd => xm_dd (fun x y => FP.dadd x y) pc ls st h
  | .ddiv => xm_dd (fun x y => FP.ddiv x y) pc ls st h
  | .lcmp => match st with
    | .long y :: .long x :: r => xm_ok (pc + 1) ls (.int (lg_cmp x y) :: r) h
    | _ => none
  | .dcmp op => match st with
    | .double y :: .double x :: r => xm_ok (pc + 1) ls (.int (Op.cmpValue (FP.dcmp x y) op) :: r) h
    | _ => none
  | .dup => match st with
    | v :: r => some (v.category = 1, pc + 1, ls, v :: v :: r, h)
    | _ => none
  | .pop => match st with
    | v :: r => some (v.category = 1, pc + 1, ls, r, h)
    | _ => none
  | .dup_x1 => match st with
    | v :: w :: r => some (v.category = 1 ∧ w.category = 1, pc + 1, ls, v :: w :: v :: r, h)
    | _ => none
  | .dup2 => match st with
    | v :: w :: r => some (v.category = 1 ∧ w.category = 1, pc + 1, ls, v :: w :: v :: w :: r, h)
    | _ => none
  | .goto _ => xm_ok (xm_p0 pl 0) ls st h
  | .ifCond c _ => match st with
    | .int x :: r => xm_ok (xm_br (xm_cb c x 0) (xm_p0 pl 0) pc) ls r h
    | _ => none
  | .if_icmp c _ => match st with
    | .int y :: .int x :: r => xm_ok (xm_br (xm_cb c x y) (xm_p0 pl 0) pc) ls r h
    | _ => none
  | .ifnonnull _ => match st with
    | .ref _ :: r => xm_ok (xm_p0 pl 0) ls r h
    | _ => none
  | .tableswitch _ _ _ _ => match st with
    | .int x :: r => xm_ok (if x < 0 ∨ pl.length ≤ x.toNatClampNeg + 1 then xm_p0 pl 0 else xm_p0 pl (x.toNatClampNeg + 1)) ls r h
    | _ => none
  | .getfield _ => match st with
    | .ref a :: r => some ((xm_k h a).1 = xm_p0 pl 0, pc + 3, ls, xm_get (xm_p0 pl 2) h a (xm_p0 pl 1) :: r, h)
    | _ => none
  | .putfield _ => match st with
    | v :: .ref a :: r => match xm_pf (xm_p0 pl 2) h a (xm_p0 pl 1) v with
      | some (φ, h') => some ((xm_k h a).1 = xm_p0 pl 0 ∧ xK ≤ a ∧ φ, pc + 3, ls, r, h')
      | none => none
    | _ => none
  | .getstatic _ => match xm_p0 pl 0 with
    | 0 => xm_ok (pc + 3) ls (cv :: st) h
    | _ => none
  | .arraylength => match st with
    | .ref a :: r => some (100 ≤ (xm_k h a).1 ∧ (xm_k h a).1 < 109, pc + 1, ls, .int (Int32.ofNat (xm_k h a).2) :: r, h)
    | _ => none
  | .iaload => xm_al 100 0 pc ls st h
  | .baload => xm_al (xm_p0 pl 0) 0 pc ls st h
  | .caload => xm_al 103 0 pc ls st h
  | .laload => xm_al 104 4 pc ls st h
  | .daload => xm_al 105 5 pc ls st h
  | .aaload => xm_al (xm_p0 pl 0) 6 pc ls st h
  | .iastore => xm_as 100 (fun x => x) pc ls st h
  | .bastore => match xm_p0 pl 0 with
    | 101 => xm_as 101 (fun x => vp_nar .boolean x) pc ls st h
    | 102 => xm_as 102 (fun x => vp_nar .byte x) pc ls st h
    | _ => none
  | .castore => xm_as 103 (fun x => vp_nar .char x) pc ls st h
  | .lastore => match st with
    | .long x :: .int j :: .ref a :: r => some ((xm_k h a).1 = 104 ∧ vp_in j (xm_k h a).2 ∧ xK ≤ a, pc + 1, ls, r, xm_sl h a j.toNatClampNeg x)
    | _ => none
  | .dastore => match st with
    | .double x :: .int j :: .ref a :: r => some ((xm_k h a).1 = 105 ∧ vp_in j (xm_k h a).2 ∧ xK ≤ a, pc + 1, ls, r, xm_sd h a j.toNatClampNeg x)
    | _ => none
  | .aastore => match st with
    | .ref b :: .int j :: .ref a :: r => some ((xm_k h a).1 = xm_p0 pl 0 ∧ vp_in j (xm_k h a).2 ∧ xK ≤ a ∧ (xm_k h b).1 = xm_p0 pl 1 ∧ xK ≤ b, pc + 1, ls, r, xm_sr h a j.toNatClampNeg (some b))
    | _ => none
  | .newarray _ => match st with
    | .int n :: r => some (¬ n < 0 ∧ n.toNatClampNeg ≤ 60000000, pc + 2, ls, .ref (xm_n h) :: r, xm_new h (xm_p0 pl 0, n.toNatClampNeg))
    | _ => none
  | .anewarray _ => match st with
    | .int n :: r => some (¬ n < 0 ∧ n.toNatClampNeg ≤ 60000000, pc + 3, ls, .ref (xm_n h) :: r, xm_new h (xm_p0 pl 0, n.toNatClampNeg))
    | _ => none
  | .new _ => match xm_p0 pl 0 with
    | 0 => xm_ok (pc + 3) ls (.ref (xm_n h) :: st) (xm_new h (xm_p0 pl 1, 0))
    | _ => none
  | _ => none
/-- calls: what stands for a method's run from its arguments and its heap to its outcome and heap -/
abbrev xm_Cl : Type := Nat → List Value → xm_H → xm_O → xm_H → Prop
abbrev xm_P : Type := Nat → xm_L → List Value → xm_H → Prop
def xm_cov (x : Nat × Nat × Nat × Nat × Nat) (pc : Nat) : Bool := decide (x.1 ≤ pc) && decide (pc < x.2.1)
/-- where an exception of class e is caught -/
def xm_hd (t : List (Nat × Nat × Nat × Nat × Nat)) (pc e : Nat) : Option Nat := match t with
  | [] => none
  | x :: r => if xm_cov x pc = true ∧ x.2.2.2.2 = e then some x.2.2.1 else xm_hd r pc e
/-- behind a call -/
def xm_back (M : xm_M) (pc : Nat) (ls : xm_L) (st : List Value) (K : xm_P) (Q : xm_O → xm_H → Prop) (o : xm_O) (h : xm_H) : Prop := match o with
  | .inl v => K (pc + 3) ls (v.toList ++ st) h
  | .inr q => match xm_hd M.2.1 pc q.1 with
    | some p => K p ls [.ref q.2] h
    | none => Q (.inr q) h
/-- n arguments stand on the stack, with the receiver -/
def xm_inv (C : xm_Cl) (M : xm_M) (y n : Nat) (pc : Nat) (ls : xm_L) (st : List Value) (h : xm_H) (K : xm_P) (Q : xm_O → xm_H → Prop) : Prop :=
  n ≤ st.length ∧ ((st.drop n).map fun v => v.category).sum ≤ 8 ∧ ∃ (o : xm_O) (h' : xm_H), C y (st.take n).reverse h o h' ∧ xm_back M pc ls (st.drop n) K Q o h'
/-- a call that returns -/
def xm_in1 (C : xm_Cl) (y n : Nat) (pc : Nat) (ls : xm_L) (st : List Value) (h : xm_H) (K : xm_P) : Prop :=
  n ≤ st.length ∧ ((st.drop n).map fun v => v.category).sum ≤ 8 ∧ ∃ (v : Option Value) (h' : xm_H), C y (st.take n).reverse h (.inl v) h' ∧ K (pc + 3) ls (v.toList ++ st.drop n) h'
/-- the receiver, under n parameters, is an object of class t -/
def xm_rcv (n t : Nat) (st : List Value) (h : xm_H) : Prop := ∃ a : Nat, st[n]? = some (.ref a) ∧ (xm_k h a).1 = t
/-- calls, returns, throws -/
def xm_X (C : xm_Cl) (M : xm_M) (i : Instr) (pl : List Nat) (pc : Nat) (ls : xm_L) (st : List Value) (h : xm_H) (K : xm_P) (Q : xm_O → xm_H → Prop) : Prop := match i with
  | .invokestatic _ => match xm_p0 pl 0 with
    | 0 => xm_inv C M (xm_p0 pl 1) (xm_p0 pl 2) pc ls st h K Q
    | 3 => xm_in1 C (xm_p0 pl 1) (xm_p0 pl 2) pc ls st h K
    | 10 => xm_in1 C (xm_p0 pl 1) (xm_p0 pl 2) pc ls st h K
    | 9 => match st with
      | .int n :: .int q :: .ref b :: .int p :: .ref a :: r => (∀ i, i < n.toNatClampNeg → fits (xm_ty (xm_p0 pl 1 - 100)) (.int (xm_i h a (p.toNatClampNeg + i))) = true) ∧ (xm_k h a).1 = xm_p0 pl 1 ∧ (xm_k h b).1 = xm_p0 pl 1 ∧ xK ≤ b ∧ ¬ n < 0 ∧ ¬ q < 0 ∧ ¬ p < 0 ∧ p.toNatClampNeg + n.toNatClampNeg ≤ (xm_k h a).2 ∧ q.toNatClampNeg + n.toNatClampNeg ≤ (xm_k h b).2 ∧ (r.map fun v => v.category).sum ≤ 8 ∧ K (pc + 3) ls r (xm_cp h a p.toNatClampNeg b q.toNatClampNeg n.toNatClampNeg)
      | _ => False
    | 11 => match st with
      | .int y :: .int x :: r => (r.map fun v => v.category).sum ≤ 8 ∧ K (pc + 3) ls (.int (if x < y then y else x) :: r) h
      | _ => False
    | 12 => match st with
      | .int y :: .int x :: r => (r.map fun v => v.category).sum ≤ 8 ∧ K (pc + 3) ls (.int (if y < x then y else x) :: r) h
      | _ => False
    | _ => False
  | .invokevirtual _ => match xm_p0 pl 0 with
    | 1 => xm_rcv (xm_p0 pl 2) (xm_p0 pl 3) st h ∧ xm_inv C M (xm_p0 pl 1) (xm_p0 pl 2 + 1) pc ls st h K Q
    | 6 => xm_rcv (xm_p0 pl 2) (xm_p0 pl 3) st h ∧ xm_in1 C (xm_p0 pl 1) (xm_p0 pl 2 + 1) pc ls st h K
    | _ => False
  | .invokespecial _ => match xm_p0 pl 0 with
    | 2 => xm_rcv (xm_p0 pl 2) (xm_p0 pl 3) st h ∧ xm_in1 C (xm_p0 pl 1) (xm_p0 pl 2 + 1) pc ls st h K
    | 4 => xm_rcv (xm_p0 pl 2) (xm_p0 pl 3) st h ∧ xm_in1 C (xm_p0 pl 1) (xm_p0 pl 2 + 1) pc ls st h K
    | 7 => xm_rcv (xm_p0 pl 2) (xm_p0 pl 3) st h ∧ xm_in1 C (xm_p0 pl 1) (xm_p0 pl 2 + 1) pc ls st h K
    | 8 => match st with
      | .ref _ :: r => (r.map fun v => v.category).sum ≤ 8 ∧ K (pc + 3) ls r h
      | _ => False
    | _ => False
  | .ireturn => match st with
    | [.int x] => (∃ ty, M.2.2.2.2.2 = some ty ∧ narrow ty (.int x) = .int x) ∧ Q (.inl (some (.int x))) h
    | _ => False
  | .dreturn => match st with
    | [.double x] => Q (.inl (some (.double x))) h
    | _ => False
  | .areturn => match st with
    | [.ref x] => Q (.inl (some (.ref x))) h
    | [.null] => Q (.inl (some .null)) h
    | _ => False
  | .return_ => match st with
    | [] => Q (.inl none) h
    | _ => False
  | .new _ => match xm_p0 pl 0 with
    | 0 => False
    | _ => (st.map fun v => v.category).sum ≤ 8 ∧ Q (.inr (xm_p0 pl 1, xm_n h)) (xm_new h (xm_p0 pl 1, 0))
  | .getstatic _ => ∀ v : Value, (v = .null ∨ ∃ a, v = .ref a) → K (pc + 3) ls (v :: st) h
  | _ => False
def xm_F1 (C : xm_Cl) (M : xm_M) (e : xm_E) (pc : Nat) (ls : xm_L) (st : List Value) (h : xm_H) (K : xm_P) (Q : xm_O → xm_H → Prop) : Prop := match xm_G e.1 e.2.2.1 e.2.2.2 pc ls st h with
  | some c => c.1 ∧ K c.2.1 c.2.2.1 c.2.2.2.1 c.2.2.2.2
  | none => xm_X C M e.1 e.2.2.1 pc ls st h K Q
def xm_F (C : xm_Cl) (M : xm_M) (pc : Nat) (ls : xm_L) (st : List Value) (h : xm_H) (K : xm_P) (Q : xm_O → xm_H → Prop) : Prop := match xm_at M pc with
  | some e => xm_F1 C M e pc (xm_mk e.2.1 ls) st h K Q
  | none => False
/-- the machine comes from here to an outcome with Q -/
def xm_W (C : xm_Cl) (M : xm_M) (Q : xm_O → xm_H → Prop) (pc : Nat) (ls : xm_L) (st : List Value) (h : xm_H) : Prop :=
  ∀ P : xm_P, (∀ pc ls st h, xm_F C M pc ls st h P Q → P pc ls st h) → P pc ls st h
/-- arguments as locals -/
def xm_av : List Value → xm_L
  | [] => []
  | .long x :: r => some (.long x) :: none :: xm_av r
  | .double x :: r => some (.double x) :: none :: xm_av r
  | v :: r => some v :: xm_av r
def xm_en (n : Nat) (as : List Value) : xm_L := xm_av as ++ List.replicate (n - (xm_av as).length) none
/-- runs of at most d calls deep, of the methods of a table -/
def xm_Rn (X : List xm_M) : Nat → xm_Cl
  | 0 => fun _ _ _ _ _ => False
  | d + 1 => fun y as h o h' => ∃ M, X[y]? = some M ∧ (xm_av as).length ≤ M.2.2.2.2.1 ∧ xm_W (xm_Rn X d) M (fun o1 h1 => o1 = o ∧ h1 = h') 0 (xm_en M.2.2.2.2.1 as) [] h
theorem xm_back_mono {M : xm_M} {pc : Nat} {ls : xm_L} {st : List Value} {K K' : xm_P} {Q : xm_O → xm_H → Prop} (hK : ∀ pc ls st h, K pc ls st h → K' pc ls st h) {o : xm_O} {h : xm_H} (hb : xm_back M pc ls st K Q o h) : xm_back M pc ls st K' Q o h := by
  unfold xm_back at hb ⊢
  split
  · exact hK _ _ _ _ hb
  · split
    · rename_i p hp
      simp only [hp] at hb
      exact hK _ _ _ _ hb
    · rename_i hp
      simp only [hp] at hb
      exact hb
theorem xm_inv_mono {C : xm_Cl} {M : xm_M} {y n pc : Nat} {ls : xm_L} {st : List Value} {h : xm_H} {K K' : xm_P} {Q : xm_O → xm_H → Prop} (hK : ∀ pc ls st h, K pc ls st h → K' pc ls st h) (hb : xm_inv C M y n pc ls st h K Q) : xm_inv C M y n pc ls st h K' Q := by
  obtain ⟨h1, h2, o, h', h3, h4⟩ := hb
  exact ⟨h1, h2, o, h', h3, xm_back_mono hK h4⟩
theorem xm_in1_mono {C : xm_Cl} {y n pc : Nat} {ls : xm_L} {st : List Value} {h : xm_H} {K K' : xm_P} (hK : ∀ pc ls st h, K pc ls st h → K' pc ls st h) (hb : xm_in1 C y n pc ls st h K) : xm_in1 C y n pc ls st h K' := by
  obtain ⟨h1, h2, v, h', h3, h4⟩ := hb
  exact ⟨h1, h2, v, h', h3, hK _ _ _ _ h4⟩
theorem xm_X_mono {C : xm_Cl} {M : xm_M} {i : Instr} {pl : List Nat} {pc : Nat} {ls : xm_L} {st : List Value} {h : xm_H} {K K' : xm_P} {Q : xm_O → xm_H → Prop} (hK : ∀ pc ls st h, K pc ls st h → K' pc ls st h) (hb : xm_X C M i pl pc ls st h K Q) : xm_X C M i pl pc ls st h K' Q := by
  unfold xm_X at hb ⊢
  split at hb
  · split at hb
    · exact xm_inv_mono hK hb
    · exact xm_in1_mono hK hb
    · exact xm_in1_mono hK hb
    · split at hb
      · obtain ⟨a0, a1, a2, a3, a4, a5, a6, a7, a8, a9, k⟩ := hb
        exact ⟨a0, a1, a2, a3, a4, a5, a6, a7, a8, a9, hK _ _ _ _ k⟩
      · exact hb
    · split at hb
      · exact ⟨hb.1, hK _ _ _ _ hb.2⟩
      · exact hb
    · split at hb
      · exact ⟨hb.1, hK _ _ _ _ hb.2⟩
      · exact hb
    · exact hb
  · split at hb
    · exact ⟨hb.1, xm_inv_mono hK hb.2⟩
    · exact ⟨hb.1, xm_in1_mono hK hb.2⟩
    · exact hb
  · split at hb
    · exact ⟨hb.1, xm_in1_mono hK hb.2⟩
    · exact ⟨hb.1, xm_in1_mono hK hb.2⟩
    · exact ⟨hb.1, xm_in1_mono hK hb.2⟩
    · split at hb
      · exact ⟨hb.1, hK _ _ _ _ hb.2⟩
      · exact hb
    · exact hb
  · exact hb
  · exact hb
  · exact hb
  · exact hb
  · exact hb
  · exact fun v hv => hK _ _ _ _ (hb v hv)
  · exact hb
theorem xm_F1_mono {C : xm_Cl} {M : xm_M} {e : xm_E} {pc : Nat} {ls : xm_L} {st : List Value} {h : xm_H} {K K' : xm_P} {Q : xm_O → xm_H → Prop} (hK : ∀ pc ls st h, K pc ls st h → K' pc ls st h) (hb : xm_F1 C M e pc ls st h K Q) : xm_F1 C M e pc ls st h K' Q := by
  unfold xm_F1 at hb ⊢
  split at hb
  · exact ⟨hb.1, hK _ _ _ _ hb.2⟩
  · exact xm_X_mono hK hb
theorem xm_F_mono {C : xm_Cl} {M : xm_M} {pc : Nat} {ls : xm_L} {st : List Value} {h : xm_H} {K K' : xm_P} {Q : xm_O → xm_H → Prop} (hK : ∀ pc ls st h, K pc ls st h → K' pc ls st h) (hb : xm_F C M pc ls st h K Q) : xm_F C M pc ls st h K' Q := by
  unfold xm_F at hb ⊢
  split at hb
  · exact xm_F1_mono hK hb
  · exact hb
/-- a step -/
theorem xm_W.step {C : xm_Cl} {M : xm_M} {Q : xm_O → xm_H → Prop} {pc : Nat} {ls : xm_L} {st : List Value} {h : xm_H} (k : xm_F C M pc ls st h (xm_W C M Q) Q) : xm_W C M Q pc ls st h :=
  fun P hP => hP _ _ _ _ (xm_F_mono (fun _ _ _ _ w => w P hP) k)
/-- a step where no mask stands -/
theorem xm_go {C : xm_Cl} {M : xm_M} {Q : xm_O → xm_H → Prop} {pc : Nat} {ls : xm_L} {st : List Value} {h : xm_H} {i : Instr} {pl : List Nat} {cv : Value} (he : xm_at M pc = some (i, none, pl, cv)) (k : xm_F1 C M (i, none, pl, cv) pc ls st h (xm_W C M Q) Q) : xm_W C M Q pc ls st h := by
  refine xm_W.step ?_
  unfold xm_F
  rw [he]
  exact k
/-- a step where a mask stands -/
theorem xm_cut {C : xm_Cl} {M : xm_M} {Q : xm_O → xm_H → Prop} {pc : Nat} {ls : xm_L} {st : List Value} {h : xm_H} {i : Instr} {m : List Bool} {pl : List Nat} {cv : Value} (he : xm_at M pc = some (i, some m, pl, cv)) (k : xm_F1 C M (i, some m, pl, cv) pc (xm_mk (some m) ls) st h (xm_W C M Q) Q) : xm_W C M Q pc ls st h := by
  refine xm_W.step ?_
  unfold xm_F
  rw [he]
  exact k
