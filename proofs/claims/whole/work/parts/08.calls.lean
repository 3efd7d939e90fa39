/-! calls: a run of the little machine is a contract of the real one -/
theorem xm_nw_warm {s U : State} (hW : s.WarmedH U.vm) {w : Cond} (hw : xm_isN w = true) (h : va_Nw w s) : va_Nw w U := by
  cases w <;> first | exact va_Nw.warmD hW h | exact va_Nw.warmC hW h | exact va_Nw.warmM hW h | (simp [xm_isN] at hw)
theorem xm_KU.warm {SL : xm_SL} {ZL : xm_ZL} {QL : xm_QL} {D : va_G} {aC : Nat → ClassId} {ct : xm_K} {H0 : Heap} {s U : State} (hW : s.WarmedH U.vm) (h : xm_KU SL ZL QL D aC ct H0 s) : xm_KU SL ZL QL D aC ct H0 U := by
  obtain ⟨h1, h2, h3, h4, h5, h6, h7, h8, h9, h10⟩ := h
  exact ⟨va_K.moved hW.alike h1, fun q hq => vk_R.warm hW (h2 q hq), fun q hq => va_Z.moved hW.alike (h3 q hq), vx_Zq.moved hW.alike h4, vx_Zq.moved hW.alike h5, fun j C hj => va_AO.moved hW.alike (h6 j C hj),
    fun w hw => xm_nw_warm hW (List.mem_filter.mp hw).2 (h7 w hw), fun a ha b hb hab => va_Nc.moved hW.alike (h8 a ha b hb hab), fun q hq => (h9 q hq).imp (va_Z.moved hW.alike) (va_Z.moved hW.alike), fun i hi hk => ⟨fun h100 => (h10 i hi hk).1 h100 |>.imp fun q z => ⟨z.1, va_O.moved hW.alike z.2.1, fun k hk => va_OF.moved hW.alike (z.2.2 k hk)⟩, fun h100 => (h10 i hi hk).2 h100 |>.imp fun ty z => ⟨z.1, va_T.moved hW.alike z.2⟩⟩⟩
def xm_rm (d mc ms : Nat) : Room := { frames := d + 8, cells := mc, slots := ms, locals := 200 + 64 * d }
def xm_hh (t : List (Nat × Nat × Nat × Nat × Nat)) : List (Nat × Nat × Nat × Nat) := t.map fun q => (q.1, q.2.1, q.2.2.1, q.2.2.2.1)
/-- a method's own word -/
def xm_cw (M : xm_M) : Cond := match M.2.1 with
  | [] => Cond.code M.2.2.1 M.2.2.2.1 M.2.2.2.2.1 M.2.2.2.2.2
  | x :: r => Cond.codeWith M.2.2.1 M.2.2.2.1 M.2.2.2.2.1 M.2.2.2.2.2 (xm_hh (x :: r))
def xm_ws (M : xm_M) : List Cond := xm_cw M :: xgd
section Con
variable (SL : xm_SL) (ZL : xm_ZL) (QL : xm_QL) (D : va_G) (aC : Nat → ClassId) (ct : xm_K) (H0 : Heap)
def xm_Pc (as : List Value) (h : xm_H) : Array Value → State → Prop := fun a U => a = (as.map (xm_cv (xm_ad H0.size ct))).toArray ∧ xm_R D aC ct H0 h U.heap ∧ xm_KU SL ZL QL D aC ct H0 U
def xm_Qc (v : Option Value) (h : xm_H) : Array Value → State → Outcome → State → Prop := fun _ _ o t => o = .returned (v.map (xm_cv (xm_ad H0.size ct))) ∧ xm_R D aC ct H0 h t.heap
def xm_XC (x : Nat × Nat) (h : xm_H) : String → Addr → State → State → Prop := fun E a _ t => xec[x.1 - 14]? = some E ∧ 14 ≤ x.1 ∧ a = xm_ad H0.size ct x.2 ∧ xm_R D aC ct H0 h t.heap
/-- what is known of all runs d deep -/
def xm_IH (X : List xm_M) (l : Launch) (d : Nat) : Prop := ∀ (y : Nat) (as : List Value) (h : xm_H) (o : xm_O) (h' : xm_H), xm_Rn X d y as h o h' → xm_mo h h' ∧ ∀ M : xm_M, X[y]? = some M →
  (∀ v : Option Value, o = .inl v → Met l M.2.2.1 (xm_ws M) (xm_rm d (xm_n h' - xm_n h) (xm_sz h' - xm_sz h)) (xm_Pc SL ZL QL D aC ct H0 as h) (xm_Qc D aC ct H0 v h') (xm_n h' - xm_n h) (xm_sz h' - xm_sz h) (fun q => H0.size ≤ q)) ∧
  (∀ x : Nat × Nat, o = .inr x → M.2.1 = [] → vx_Met l M.2.2.1 (xm_ws M) (xm_rm d (xm_n h' - xm_n h) (xm_sz h' - xm_sz h)) (xm_Pc SL ZL QL D aC ct H0 as h) (fun _ _ _ _ => False) (xm_XC D aC ct H0 x h') (xm_n h' - xm_n h) (xm_sz h' - xm_sz h) (fun q => H0.size ≤ q))
end Con
/-- what a callee's row must say -/
def xm_cal (X : List xm_M) (y n : Nat) (M : xm_M) : Prop := X[y]? = some M ∧ xm_cw M ∈ xgd ∧ Cond.initialized M.2.2.1.cls ∈ xgd ∧ (M.2.2.1.cls ≠ "java/lang/invoke/MethodHandle" ∧ M.2.2.1.cls ≠ "java/lang/invoke/VarHandle") ∧ (parseMethodDescriptor M.2.2.1.desc).map (fun d => d.parameters.length) = some n ∧ M.2.2.2.2.1 ≤ 45
def xm_okX (SL : xm_SL) (QL : xm_QL) (X : List xm_M) (M : xm_M) (pc : Nat) (e : xm_E) : Prop := match e.1 with
  | .invokestatic idx => match xm_p0 e.2.2.1 0 with
    | 0 => ∃ N, xm_cal X (xm_p0 e.2.2.1 1) (xm_p0 e.2.2.1 2) N ∧ N.2.1 = [] ∧ Cond.methodLink M.2.2.1.cls idx N.2.2.1 ∈ xgd ∧ Cond.static N.2.2.1 ∈ xgd
    | 3 => ∃ N host, xm_cal X (xm_p0 e.2.2.1 1) (xm_p0 e.2.2.1 2) N ∧ N.2.1 = [] ∧ Cond.methodLinkNest M.2.2.1.cls idx N.2.2.1 host ∈ xnw ∧ Cond.static N.2.2.1 ∈ xgd
    | 10 => ∃ N x r, xm_cal X (xm_p0 e.2.2.1 1) (xm_p0 e.2.2.1 2) N ∧ N.2.1 = x :: r ∧ Cond.methodLink M.2.2.1.cls idx N.2.2.1 ∈ xgd ∧ Cond.static N.2.2.1 ∈ xgd
    | 9 => Cond.methodLink M.2.2.1.cls idx arraycopyName ∈ xgd ∧ Cond.native arraycopyName ∈ xgd ∧ Cond.static arraycopyName ∈ xgd ∧ Cond.initialized "java/lang/System" ∈ xgd ∧ (xm_p0 e.2.2.1 1 = 100 ∨ xm_p0 e.2.2.1 1 = 101 ∨ xm_p0 e.2.2.1 1 = 102)
    | 11 => Cond.methodLink M.2.2.1.cls idx Lib.Math.max.name ∈ xgd ∧ Cond.static Lib.Math.max.name ∈ xgd ∧ Cond.initialized "java/lang/Math" ∈ xgd ∧ Cond.code Lib.Math.max.name Lib.Math.max.code 2 (some .int) ∈ xgd
    | 12 => Cond.methodLink M.2.2.1.cls idx Lib.Math.min.name ∈ xgd ∧ Cond.static Lib.Math.min.name ∈ xgd ∧ Cond.initialized "java/lang/Math" ∈ xgd ∧ Cond.code Lib.Math.min.name Lib.Math.min.code 2 (some .int) ∈ xgd
    | _ => False
  | .invokevirtual idx => match xm_p0 e.2.2.1 0 with
    | 1 => ∃ N q, xm_cal X (xm_p0 e.2.2.1 1) (xm_p0 e.2.2.1 2) N ∧ N.2.1 = [] ∧ xcl[xm_p0 e.2.2.1 3]? = some q ∧ xm_p0 e.2.2.1 3 < 14 ∧ Cond.methodLink M.2.2.1.cls idx N.2.2.1 ∈ xgd ∧ Cond.instanceMethod N.2.2.1 ∈ xgd ∧ Cond.selects q.1 N.2.2.1 N.2.2.1 ∈ xgd
    | 6 => ∃ (N : xm_M) (q : vw_C) (x : MethodName), xm_cal X (xm_p0 e.2.2.1 1) (xm_p0 e.2.2.1 2) N ∧ N.2.1 = [] ∧ xcl[xm_p0 e.2.2.1 3]? = some q ∧ xm_p0 e.2.2.1 3 < 14 ∧ Cond.methodLink M.2.2.1.cls idx x ∈ xgd ∧ Cond.sameMethod x.cls N.2.2.1.cls x.name x.desc ∈ xgd ∧ Cond.selects q.1 x N.2.2.1 ∈ xgd ∧ Cond.instanceMethod N.2.2.1 ∈ xgd ∧ N.2.2.1.name = x.name ∧ N.2.2.1.desc = x.desc
    | _ => False
  | .invokespecial idx => match xm_p0 e.2.2.1 0 with
    | 2 => ∃ N, xm_cal X (xm_p0 e.2.2.1 1) (xm_p0 e.2.2.1 2) N ∧ N.2.1 = [] ∧ N.2.2.2.2.2 = none ∧ N.2.2.1.name = "<init>" ∧ Cond.methodLink M.2.2.1.cls idx N.2.2.1 ∈ xgd ∧ Cond.instanceMethod N.2.2.1 ∈ xgd
    | 4 => ∃ N host, xm_cal X (xm_p0 e.2.2.1 1) (xm_p0 e.2.2.1 2) N ∧ N.2.1 = [] ∧ N.2.2.2.2.2 = none ∧ N.2.2.1.name = "<init>" ∧ Cond.methodLinkNest M.2.2.1.cls idx N.2.2.1 host ∈ xnw ∧ Cond.instanceMethod N.2.2.1 ∈ xgd
    | 7 => ∃ (N : xm_M) (q : vw_C), xm_cal X (xm_p0 e.2.2.1 1) (xm_p0 e.2.2.1 2) N ∧ N.2.1 = [] ∧ xcl[xm_p0 e.2.2.1 3]? = some q ∧ xm_p0 e.2.2.1 3 < 14 ∧ N.2.2.1.name ≠ "<init>" ∧ Cond.methodLink M.2.2.1.cls idx N.2.2.1 ∈ xgd ∧ Cond.sameMethod N.2.2.1.cls N.2.2.1.cls N.2.2.1.name N.2.2.1.desc ∈ xgd ∧ Cond.superclass M.2.2.1.cls N.2.2.1.cls ∈ xgd ∧ Cond.instanceMethod N.2.2.1 ∈ xgd
    | 8 => Cond.methodLink M.2.2.1.cls idx objectInit ∈ xgd ∧ Cond.instanceMethod objectInit ∈ xgd ∧ Cond.code objectInit ⟨#[0xb1]⟩ 1 none ∈ xgd
    | _ => False
  | .dreturn => M.2.2.2.2.2 = some .double
  | .areturn => ∃ rt, M.2.2.2.2.2 = some rt ∧ ((∃ n, rt = .object n) ∨ ∃ t, rt = .array t)
  | .return_ => M.2.2.2.2.2 = none
  | .new ik => xm_p0 e.2.2.1 0 ≠ 0 → ∃ (cls text : String) (i is ic : Nat), M.2.1 = [] ∧ xec[xm_p0 e.2.2.1 1 - 14]? = some cls ∧ 14 ≤ xm_p0 e.2.2.1 1 ∧ xm_p0 e.2.2.1 1 < 17 ∧ (M.2.2.1.cls, is, text, i) ∈ SL ∧ Cond.classLink M.2.2.1.cls ik cls ∈ xgd ∧ Cond.initialized cls ∈ xgd ∧ Bundle.fit cls = true ∧
      (∀ w ∈ vx_atS M.2.2.1.cls ic cls ["java/lang/RuntimeException", "java/lang/Exception"], (w ∈ xgd ∨ w ∈ xnw) ∧ vx_ot w = true) ∧
      decode M.2.2.2.1 (pc + 3) = .ok (.dup, 1) ∧ ((decode M.2.2.2.1 (pc + 4) = .ok (.ldc is, 2) ∧ decode M.2.2.2.1 (pc + 6) = .ok (.invokespecial ic, 3) ∧ decode M.2.2.2.1 (pc + 9) = .ok (.athrow, 1)) ∨ (decode M.2.2.2.1 (pc + 4) = .ok (.ldc_w is, 3) ∧ decode M.2.2.2.1 (pc + 7) = .ok (.invokespecial ic, 3) ∧ decode M.2.2.2.1 (pc + 10) = .ok (.athrow, 1)))
  | .getstatic idx => xm_p0 e.2.2.1 0 ≠ 0 → ∃ C n d, (M.2.2.1.cls, idx, C, n, d) ∈ QL ∧ Cond.fieldLink M.2.2.1.cls idx C n d ∈ xgd
  | _ => True
/-- a method's table is right -/
def xm_okM (SL : xm_SL) (ZL : xm_ZL) (QL : xm_QL) (X : List xm_M) (M : xm_M) : Prop :=
  (∀ pc e, xm_at M pc = some e → decode M.2.2.2.1 pc = .ok (e.1, xm_lenE e) ∧ xm_okG SL ZL M.2.2.1.cls M.2.2.1.name pc e ∧ xm_okX SL QL X M pc e ∧ ∀ m, e.2.1 = some m → m.length = M.2.2.2.2.1) ∧
  (∀ x ∈ M.2.1, 14 ≤ x.2.2.2.2 ∧ x.2.2.2.1 ≠ 0 ∧ ∃ nm, xec[x.2.2.2.2 - 14]? = some nm ∧ Cond.classLink M.2.2.1.cls x.2.2.2.1 nm ∈ xgd ∧ Cond.castable nm nm ∈ xnw) ∧ plainName M.2.2.1.cls = true
theorem xm_good {args a' : Array Value} {s U : State} {w : Cond} (hts : ∀ w ∈ xgd, w.before args s = true) (hw : w ∈ xgd) (hW : s.WarmedH U.vm) : w.before a' U = true := word_at hW (good_of_word (List.mem_filter.mp hw).2) (hts w hw)
theorem xm_goods {args : Array Value} {s : State} {M : xm_M} (hts : ∀ w ∈ xgd, w.before args s = true) (hM : xm_cw M ∈ xgd) : ∀ w ∈ xm_ws M, ∀ (a' : Array Value) (U : State), s.WarmedH U.vm → w.before a' U = true := fun w hw a' U hW => by
  rcases List.mem_cons.mp hw with rfl | h
  · exact xm_good hts hM hW
  · exact xm_good hts h hW
theorem xm_G_mo {i : Instr} {pl : List Nat} {cv : Value} {pc : Nat} {ls : xm_L} {st : List Value} {h : xm_H} {q : Prop × Nat × xm_L × List Value × xm_H} (hG : xm_G i pl cv pc ls st h = some q) : xm_mo h q.2.2.2.2 := by
  have rf : xm_mo h h := xm_mo.rf
  cases i
  all_goals (try (cases hG; done))
  all_goals (try (simp only [xm_G, xm_ok, Option.some.injEq] at hG; subst hG; exact rf))
  all_goals (try (obtain ⟨v, hv, hq, -⟩ := xm_gl_spec hG; subst hq; exact rf))
  all_goals (try (obtain ⟨v, r, -, hc⟩ := xm_pl_spec hG; rcases hc with ⟨-, -, hq⟩ | ⟨-, -, hq⟩ | ⟨-, -, hq⟩ | ⟨-, -, hq⟩ | ⟨-, -, hq⟩ <;> (subst hq; exact rf)))
  all_goals (simp only [xm_G, xm_ii, xm_id, xm_i1, xm_ll, xm_ldd, xm_dd, xm_al, xm_as, xm_ok] at hG)
  all_goals (repeat' (split at hG))
  all_goals (first | (cases hG; done) | skip)
  all_goals (try (simp only [Option.some.injEq] at hG; subst hG; first | exact rf | exact xm_mo.nw _ _ | skip))
  all_goals (
    rename_i hpf
    dsimp only
    unfold xm_pf at hpf
    split at hpf <;> first | (cases hpf; done) | (simp only [Option.some.injEq, Prod.mk.injEq] at hpf; obtain ⟨-, rfl⟩ := hpf; exact rf))
