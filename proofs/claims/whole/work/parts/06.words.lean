/-! what the method tables must say: the words behind each entry -/
abbrev xtys (aC : Nat → ClassId) : List (ClassId × FieldType) := [(aC 0, .int), (aC 1, .boolean), (aC 2, .byte), (aC 3, .char), (aC 4, .long), (aC 5, .double), (aC 6, .object "AdMarketplace$Campaign"), (aC 7, .object "AdMarketplace$Tag"), (aC 8, .object "AdMarketplace$Standing")]
theorem xtys_at {aC : Nat → ClassId} {j : Nat} {ty : FieldType} (h : xat[j]? = some ty) : (xtys aC)[j]? = some (aC j, ty) := by
  match j, h with
  | 0, h => cases h; rfl
  | 1, h => cases h; rfl
  | 2, h => cases h; rfl
  | 3, h => cases h; rfl
  | 4, h => cases h; rfl
  | 5, h => cases h; rfl
  | 6, h => cases h; rfl
  | 7, h => cases h; rfl
  | 8, h => cases h; rfl
  | n + 9, h => simp at h
/-- the constants' own addresses: which String constant is which cell -/
abbrev xm_SL : Type := List (String × Nat × String × Nat)
/-- statics: class, name, descriptor, value -/
abbrev xm_ZL : Type := List (String × Nat × String × String × String × Value)
/-- String constants and statics that the machine reads -/
def xm_fok (own : String) (idx t k τ : Nat) : Prop := ∃ (q : vw_C) (ty : Nat → FieldType), xcl[t]? = some q ∧ t < 14 ∧ k < q.2.2 ∧ xft[t]? = some ty ∧ xm_tc (ty k) = τ ∧ Cond.fieldLink own idx (q.2.1 k).1 (q.2.1 k).2.1 (q.2.1 k).2.2.1 ∈ xgd
def xm_wok (own name : String) (t k : Nat) : Prop := ∀ q : vw_C, xcl[t]? = some q → (q.2.1 k).2.2.2 = false ∨ ((q.2.1 k).2.2.2 = true ∧ (q.2.1 k).1 = own ∧ name = "<init>")
/-- what an entry of one successor needs -/
def xm_okG (SL : xm_SL) (ZL : xm_ZL) (own name : String) (pc : Nat) (e : xm_E) : Prop := match e.1 with
  | .getfield idx => xm_fok own idx (xm_p0 e.2.2.1 0) (xm_p0 e.2.2.1 1) (xm_p0 e.2.2.1 2)
  | .putfield idx => xm_fok own idx (xm_p0 e.2.2.1 0) (xm_p0 e.2.2.1 1) (xm_p0 e.2.2.1 2) ∧ xm_wok own name (xm_p0 e.2.2.1 0) (xm_p0 e.2.2.1 1)
  | .goto off => (pc : Int) + off = (xm_p0 e.2.2.1 0 : Int)
  | .ifCond _ off => (pc : Int) + off = (xm_p0 e.2.2.1 0 : Int)
  | .if_icmp _ off => (pc : Int) + off = (xm_p0 e.2.2.1 0 : Int)
  | .ifnonnull off => (pc : Int) + off = (xm_p0 e.2.2.1 0 : Int)
  | .tableswitch d lo hi offs => lo = 0 ∧ hi + 2 = (e.2.2.1.length : Int) ∧ offs.size + 1 = e.2.2.1.length ∧ (pc : Int) + d = (xm_p0 e.2.2.1 0 : Int) ∧ ∀ j : Nat, j < offs.size → (pc : Int) + offs.getD j 0 = (xm_p0 e.2.2.1 (j + 1) : Int)
  | .ldc idx => match e.2.2.2 with
    | .int v => Cond.constant own idx v ∈ xgd
    | .ref i => ∃ tx, (own, idx, tx, i) ∈ SL
    | _ => False
  | .ldc_w idx => match e.2.2.2 with
    | .int v => Cond.constant own idx v ∈ xgd
    | .ref i => ∃ tx, (own, idx, tx, i) ∈ SL
    | _ => False
  | .ldc2_w idx => match e.2.2.2 with
    | .long v => Cond.constantLong own idx v ∈ xgd
    | _ => False
  | .getstatic idx => xm_p0 e.2.2.1 0 = 0 → ∃ C n d, (own, idx, C, n, d, e.2.2.2) ∈ ZL ∧ Cond.fieldLink own idx C n d ∈ xgd
  | .newarray a => ∃ j : Nat, xm_p0 e.2.2.1 0 = 100 + j ∧ j < 6 ∧ xat[j]? = some (newarray.typeOf a) ∧ Cond.arrayClass (newarray.typeOf a) ∈ xgd
  | .anewarray idx => ∃ (j : Nat) (C : String), xm_p0 e.2.2.1 0 = 100 + j ∧ 6 ≤ j ∧ xat[j]? = some (.object C) ∧ Cond.classLink own idx C ∈ xgd
  | .new idx => xm_p0 e.2.2.1 0 = 0 → ∃ q : vw_C, xcl[xm_p0 e.2.2.1 1]? = some q ∧ xm_p0 e.2.2.1 1 < 14 ∧ Cond.classLink own idx q.1 ∈ xgd
  | .aastore => ∃ (j : Nat) (C : String) (q : vw_C), xm_p0 e.2.2.1 0 = 100 + j ∧ 6 ≤ j ∧ xat[j]? = some (.object C) ∧ xcl[xm_p0 e.2.2.1 1]? = some q ∧ xm_p0 e.2.2.1 1 < 14 ∧ q.1 = C
  | .aaload => ∃ (j : Nat) (C : String), xm_p0 e.2.2.1 0 = 100 + j ∧ 6 ≤ j ∧ xat[j]? = some (.object C)
  | .baload => xm_p0 e.2.2.1 0 = 101 ∨ xm_p0 e.2.2.1 0 = 102
  | _ => True
/-- lengths of the instructions -/
def xm_len (i : Instr) : Nat := match i with
  | .bipush _ => 2
  | .sipush _ => 3
  | .ldc _ => 2
  | .ldc_w _ => 3
  | .ldc2_w _ => 3
  | .iload _ => 2
  | .lload _ => 2
  | .dload _ => 2
  | .aload _ => 2
  | .istore _ => 2
  | .lstore _ => 2
  | .dstore _ => 2
  | .astore _ => 2
  | .iinc _ _ => 3
  | .goto _ => 3
  | .ifCond _ _ => 3
  | .if_icmp _ _ => 3
  | .ifnonnull _ => 3
  | .getfield _ => 3
  | .putfield _ => 3
  | .getstatic _ => 3
  | .newarray _ => 2
  | .anewarray _ => 3
  | .new _ => 3
  | .invokestatic _ => 3
  | .invokevirtual _ => 3
  | .invokespecial _ => 3
  | .checkcast _ => 3
  | _ => 1
/-- ... of a switch it stands in the entry -/
def xm_lenE (e : xm_E) : Nat := match e.1 with
  | .tableswitch _ _ _ _ => (match e.2.2.2 with
    | .int n => n.toNatClampNeg
    | _ => 0)
  | i => xm_len i
/-- words that a warmer state keeps, apart from the good ones -/
def xm_isN (w : Cond) : Bool := match w with
  | .declares _ => true
  | .castable _ _ => true
  | .methodLinkNest _ _ _ _ => true
  | _ => false
def xnw : List Cond := lw_tbl.filter xm_isN
theorem xw_of {i : Nat} {w : Cond} (h : tables_1[i]? = some w) (g : xm_isN w = true) : w ∈ xnw := List.mem_filter.mpr ⟨List.mem_append_right _ (List.mem_of_getElem? h), g⟩
/-- statics of which only 'a reference or null' is said: class, entry, class, name, descriptor -/
abbrev xm_QL : Type := List (String × Nat × String × String × String)
abbrev xec : List String := ["java/lang/IndexOutOfBoundsException", "java/lang/IllegalArgumentException", "java/lang/IllegalStateException"]
/-- what the constants hold -/
def xm_Kc (ct : xm_K) (H0 : Heap) (U : State) : Prop := ∀ i, i < xK → (xm_k ct.2 i).1 < 200 →
  ((xm_k ct.2 i).1 < 100 → ∃ q, xcl[(xm_k ct.2 i).1]? = some q ∧ va_O q.1 (ct.1 i) (fun a => H0.size ≤ a) U H0 ∧ ∀ k, k < q.2.2 → va_OF (q.2.1 k).1 (q.2.1 k).2.1 (q.2.1 k).2.2.1 (xm_cv (xm_ad H0.size ct) (xm_get (xm_tc (xm_fty (xm_k ct.2 i).1 k)) ct.2 i k)) (ct.1 i) (fun a => H0.size ≤ a) U H0) ∧
  (100 ≤ (xm_k ct.2 i).1 → ∃ ty, xat[(xm_k ct.2 i).1 - 100]? = some ty ∧ va_T ty (ct.1 i) (xm_k ct.2 i).2 (fun j => xm_cv (xm_ad H0.size ct) (xm_get (xm_et (xm_k ct.2 i).1) ct.2 i j)) (fun a => H0.size ≤ a) U H0)
/-- what the tables and the old heap say all along -/
def xm_KU (SL : xm_SL) (ZL : xm_ZL) (QL : xm_QL) (D : va_G) (aC : Nat → ClassId) (ct : xm_K) (H0 : Heap) (U : State) : Prop :=
  va_K D xcl (xtys aC) U ∧ (∀ q ∈ SL, vk_R q.1 q.2.1 q.2.2.1 (xm_ad H0.size ct q.2.2.2) U) ∧ (∀ q ∈ ZL, va_Z q.2.2.1 q.2.2.2.1 q.2.2.2.2.1 (xm_cv (xm_ad H0.size ct) q.2.2.2.2.2) (fun a => H0.size ≤ a) U H0) ∧
  vx_Zq Bundle.tN "UNASSIGNED_STACK" Bundle.steD (fun a => H0.size ≤ a) U H0 ∧ vx_Zq Bundle.tN "SUPPRESSED_SENTINEL" Bundle.listD (fun a => H0.size ≤ a) U H0 ∧
  (∀ (j : Nat) (C : String), xat[j]? = some (.object C) → va_AO C U) ∧ (∀ w ∈ xnw, va_Nw w U) ∧ (∀ a ∈ xec, ∀ b ∈ xec, a ≠ b → va_Nc a b U) ∧
  (∀ q ∈ QL, va_Z q.2.2.1 q.2.2.2.1 q.2.2.2.2 .null (fun a => H0.size ≤ a) U H0 ∨ va_Z q.2.2.1 q.2.2.2.1 q.2.2.2.2 (.ref (xm_ad H0.size ct 159)) (fun a => H0.size ≤ a) U H0) ∧ xm_Kc ct H0 U
/-- what stands fixed in a method's body -/
def xm_Fx (SL : xm_SL) (ZL : xm_ZL) (QL : xm_QL) (D : va_G) (aC : Nat → ClassId) (ct : xm_K) (H0 : Heap) (p : Program) (s : State) (m : MethodId) (args : Array Value) (meth : Method) (c : Code) (M : xm_M) : Prop :=
  p.tables.exec = Jvm.exec ∧ c.code = M.2.2.2.1 ∧ c.maxLocals = M.2.2.2.2.1 ∧ s.vm.findClass M.2.2.1.cls = some m.cls ∧ (∀ w ∈ xgd, w.before args s = true) ∧ xm_KU SL ZL QL D aC ct H0 s ∧ meth.locks = false ∧ (M.2.2.1.name = "<init>" → meth.name = "<init>") ∧ (∀ q, q < H0.size → s.heap[q]? = H0[q]?) ∧ H0.size ≤ s.heap.size
