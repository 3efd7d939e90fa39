/-! one instruction of the little machine is one of the real machine -/
theorem xm_gl_spec {pc i τ : Nat} {ls : xm_L} {st : List Value} {h : xm_H} {q : Prop × Nat × xm_L × List Value × xm_H} (hq : xm_gl pc i τ ls st h = some q) : ∃ v, xm_ld ls i = some v ∧ q = (True, pc, ls, v :: st, h) ∧ ((τ = 0 ∧ ∃ x, v = .int x) ∨ (τ = 1 ∧ ∃ x, v = .long x) ∨ (τ = 2 ∧ ∃ x, v = .double x) ∨ (τ = 3 ∧ ∃ x, v = .ref x) ∨ (τ = 3 ∧ v = .null)) := by
  unfold xm_gl at hq
  split at hq
  · rename_i x hx; exact ⟨_, hx, (Option.some.inj hq).symm, Or.inl ⟨rfl, _, rfl⟩⟩
  · rename_i x hx; exact ⟨_, hx, (Option.some.inj hq).symm, Or.inr (Or.inl ⟨rfl, _, rfl⟩)⟩
  · rename_i x hx; exact ⟨_, hx, (Option.some.inj hq).symm, Or.inr (Or.inr (Or.inl ⟨rfl, _, rfl⟩))⟩
  · rename_i x hx; exact ⟨_, hx, (Option.some.inj hq).symm, Or.inr (Or.inr (Or.inr (Or.inl ⟨rfl, _, rfl⟩)))⟩
  · rename_i hx; exact ⟨_, hx, (Option.some.inj hq).symm, Or.inr (Or.inr (Or.inr (Or.inr ⟨rfl, rfl⟩)))⟩
  · cases hq
theorem xm_pl_spec {pc i τ : Nat} {ls : xm_L} {st : List Value} {h : xm_H} {q : Prop × Nat × xm_L × List Value × xm_H} (hq : xm_pl pc i τ ls st h = some q) : ∃ v r, st = v :: r ∧ ((τ = 0 ∧ (∃ x, v = .int x) ∧ q = (i < ls.length, pc, xm_st ls i v, r, h)) ∨ (τ = 1 ∧ (∃ x, v = .long x) ∧ q = (i + 1 < ls.length, pc, xm_st2 ls i v, r, h)) ∨ (τ = 2 ∧ (∃ x, v = .double x) ∧ q = (i + 1 < ls.length, pc, xm_st2 ls i v, r, h)) ∨ (τ = 3 ∧ (∃ x, v = .ref x) ∧ q = (i < ls.length, pc, xm_st ls i v, r, h)) ∨ (τ = 3 ∧ v = .null ∧ q = (i < ls.length, pc, xm_st ls i v, r, h))) := by
  unfold xm_pl at hq
  split at hq
  · exact ⟨_, _, rfl, Or.inl ⟨rfl, ⟨_, rfl⟩, (Option.some.inj hq).symm⟩⟩
  · exact ⟨_, _, rfl, Or.inr (Or.inl ⟨rfl, ⟨_, rfl⟩, (Option.some.inj hq).symm⟩)⟩
  · exact ⟨_, _, rfl, Or.inr (Or.inr (Or.inl ⟨rfl, ⟨_, rfl⟩, (Option.some.inj hq).symm⟩))⟩
  · exact ⟨_, _, rfl, Or.inr (Or.inr (Or.inr (Or.inl ⟨rfl, ⟨_, rfl⟩, (Option.some.inj hq).symm⟩)))⟩
  · exact ⟨_, _, rfl, Or.inr (Or.inr (Or.inr (Or.inr ⟨rfl, rfl, (Option.some.inj hq).symm⟩)))⟩
  · cases hq
theorem xm_st_len (ls : xm_L) (i : Nat) (v : Value) : (xm_st ls i v).length = ls.length := by simp [xm_st, xm_kill_len]
theorem xm_st2_len (ls : xm_L) (i : Nat) (v : Value) : (xm_st2 ls i v).length = ls.length := by simp [xm_st2, xm_kill_len]
theorem xm_locs {H0z a k : Nat} {locs : List Loc} (hlo : ∀ l ∈ locs, H0z ≤ l.base) (ha : H0z ≤ a) : ∀ l ∈ locs ++ [(⟨a, k⟩ : Loc)], H0z ≤ l.base := fun l hl => by
  rcases List.mem_append.mp hl with q | q
  · exact hlo l q
  · rw [List.mem_singleton.mp q]; exact ha
theorem xm_ad_ge {z : Nat} {ct : xm_K} {a : Nat} (ha : xK ≤ a) : z ≤ xm_ad z ct a := by
  unfold xm_ad
  rw [if_neg (Nat.not_lt.mpr ha)]
  omega
theorem xm_gsi {σ : Nat} {h : xm_H} {a k b : Nat} {x : Int32} (hb : b ≠ k) : xm_get σ (xm_si h a k x) a b = xm_get σ h a b := by
  unfold xm_get
  split <;> simp [xm_si, xm_l, xm_d, xm_r, xm_i, xm_u2, hb]
theorem xm_gsl {σ : Nat} {h : xm_H} {a k b : Nat} {x : Int64} (hb : b ≠ k) : xm_get σ (xm_sl h a k x) a b = xm_get σ h a b := by
  unfold xm_get
  split <;> simp [xm_sl, xm_l, xm_d, xm_r, xm_i, xm_u2, hb]
theorem xm_gsd {σ : Nat} {h : xm_H} {a k b : Nat} {x : UInt64} (hb : b ≠ k) : xm_get σ (xm_sd h a k x) a b = xm_get σ h a b := by
  unfold xm_get
  split <;> simp [xm_sd, xm_l, xm_d, xm_r, xm_i, xm_u2, hb]
theorem xm_gsr {σ : Nat} {h : xm_H} {a k b : Nat} {x : Option Nat} (hb : b ≠ k) : xm_get σ (xm_sr h a k x) a b = xm_get σ h a b := by
  unfold xm_get
  split <;> simp [xm_sr, xm_l, xm_d, xm_r, xm_i, xm_u2, hb]
theorem xm_ggi {σ : Nat} (hσ : σ < 4) {h : xm_H} {a k : Nat} {x : Int32} : xm_get σ (xm_si h a k x) a k = .int x := by
  rcases (show σ = 0 ∨ σ = 1 ∨ σ = 2 ∨ σ = 3 by omega) with rfl | rfl | rfl | rfl <;> simp [xm_get, xm_i, xm_si, xm_u2]
theorem xm_upI {ad : Nat → Nat} {h : xm_H} {a i : Nat} {y : Int32} (σ : Nat) (hσ : σ < 4) (b : Nat) : xm_cv ad (xm_get σ (xm_si h a i y) a b) = updV (fun b => xm_cv ad (xm_get σ h a b)) i (.int y) b := by
  unfold updV
  by_cases hb : b = i
  · subst hb
    rw [if_pos rfl, xm_ggi hσ]
    rfl
  · rw [if_neg hb, xm_gsi hb]
theorem xm_upL {ad : Nat → Nat} {h : xm_H} {a i : Nat} {y : Int64} (b : Nat) : xm_cv ad (xm_get 4 (xm_sl h a i y) a b) = updV (fun b => xm_cv ad (xm_get 4 h a b)) i (.long y) b := by
  unfold updV
  by_cases hb : b = i
  · subst hb
    rw [if_pos rfl]
    simp [xm_get, xm_l, xm_sl, xm_u2, xm_cv]
  · rw [if_neg hb, xm_gsl hb]
theorem xm_upD {ad : Nat → Nat} {h : xm_H} {a i : Nat} {y : UInt64} (b : Nat) : xm_cv ad (xm_get 5 (xm_sd h a i y) a b) = updV (fun b => xm_cv ad (xm_get 5 h a b)) i (.double y) b := by
  unfold updV
  by_cases hb : b = i
  · subst hb
    rw [if_pos rfl]
    simp [xm_get, xm_d, xm_sd, xm_u2, xm_cv]
  · rw [if_neg hb, xm_gsd hb]
theorem xm_upR {ad : Nat → Nat} {h : xm_H} {a i y : Nat} (b : Nat) : xm_cv ad (xm_get 6 (xm_sr h a i (some y)) a b) = updV (fun b => xm_cv ad (xm_get 6 h a b)) i (.ref (ad y)) b := by
  unfold updV
  by_cases hb : b = i
  · subst hb
    rw [if_pos rfl]
    simp [xm_get, xm_r, xm_sr, xm_u2, xm_cv, va_rf]
  · rw [if_neg hb, xm_gsr hb]
/-- a value put: what changes -/
theorem xm_pf_spec {ad : Nat → Nat} {τ : Nat} {h h1 : xm_H} {a k : Nat} {v : Value} {ψ : Prop} {ty : FieldType} (hp : xm_pf τ h a k v = some (ψ, h1)) (hψ : ψ) (ht : xm_tc ty = τ) (fτ : Nat → Nat) (hf : fτ k = τ) : xm_n h1 = xm_n h ∧ (∀ i, xm_k h1 i = xm_k h i) ∧ (∀ σ b m, b ≠ a → xm_get σ h1 b m = xm_get σ h b m) ∧
    (∀ b, xm_cv ad (xm_get (fτ b) h1 a b) = updV (fun b => xm_cv ad (xm_get (fτ b) h a b)) k (xm_cv ad v) b) ∧ narrow ty (xm_cv ad v) = xm_cv ad v ∧ fits ty (xm_cv ad v) = true := by
  have key : ∀ (h1 : xm_H), (∀ σ b, b ≠ k → xm_get σ h1 a b = xm_get σ h a b) → xm_get τ h1 a k = v → ∀ b, xm_cv ad (xm_get (fτ b) h1 a b) = updV (fun b => xm_cv ad (xm_get (fτ b) h a b)) k (xm_cv ad v) b := fun h1 q1 q2 b => by
    unfold updV
    by_cases hb : b = k
    · subst hb
      rw [if_pos rfl, hf, q2]
    · rw [if_neg hb, q1 _ _ hb]
  unfold xm_pf at hp
  split at hp
  · simp only [Option.some.injEq, Prod.mk.injEq] at hp
    obtain ⟨rfl, rfl⟩ := hp
    refine ⟨rfl, fun _ => rfl, fun σ b m hb => xm_get_si hb, key _ (fun σ b hb => xm_gsi hb) (xm_ggi (by decide)), ?_, ?_⟩ <;> cases ty <;> first | rfl | (simp [xm_tc] at ht)
  · simp only [Option.some.injEq, Prod.mk.injEq] at hp
    obtain ⟨rfl, rfl⟩ := hp
    refine ⟨rfl, fun _ => rfl, fun σ b m hb => xm_get_si hb, key _ (fun σ b hb => xm_gsi hb) (xm_ggi (by decide)), ?_, ?_⟩ <;> cases ty <;> first | exact hψ.1 | exact hψ.2 | (simp [xm_tc] at ht)
  · simp only [Option.some.injEq, Prod.mk.injEq] at hp
    obtain ⟨rfl, rfl⟩ := hp
    refine ⟨rfl, fun _ => rfl, fun σ b m hb => xm_get_si hb, key _ (fun σ b hb => xm_gsi hb) (xm_ggi (by decide)), ?_, ?_⟩ <;> cases ty <;> first | exact hψ.1 | exact hψ.2 | (simp [xm_tc] at ht)
  · simp only [Option.some.injEq, Prod.mk.injEq] at hp
    obtain ⟨rfl, rfl⟩ := hp
    refine ⟨rfl, fun _ => rfl, fun σ b m hb => xm_get_si hb, key _ (fun σ b hb => xm_gsi hb) (xm_ggi (by decide)), ?_, ?_⟩ <;> cases ty <;> first | exact hψ.1 | exact hψ.2 | (simp [xm_tc] at ht)
  · simp only [Option.some.injEq, Prod.mk.injEq] at hp
    obtain ⟨rfl, rfl⟩ := hp
    refine ⟨rfl, fun _ => rfl, fun σ b m hb => xm_get_sl hb, key _ (fun σ b hb => xm_gsl hb) (by simp [xm_get, xm_l, xm_sl, xm_u2]), ?_, ?_⟩ <;> cases ty <;> first | rfl | (simp [xm_tc] at ht)
  · simp only [Option.some.injEq, Prod.mk.injEq] at hp
    obtain ⟨rfl, rfl⟩ := hp
    refine ⟨rfl, fun _ => rfl, fun σ b m hb => xm_get_sd hb, key _ (fun σ b hb => xm_gsd hb) (by simp [xm_get, xm_d, xm_sd, xm_u2]), ?_, ?_⟩ <;> cases ty <;> first | rfl | (simp [xm_tc] at ht)
  · simp only [Option.some.injEq, Prod.mk.injEq] at hp
    obtain ⟨rfl, rfl⟩ := hp
    refine ⟨rfl, fun _ => rfl, fun σ b m hb => xm_get_sr hb, key _ (fun σ b hb => xm_gsr hb) (by simp [xm_get, xm_r, xm_sr, xm_u2, va_rf]), ?_, ?_⟩ <;> cases ty <;> first | rfl | (simp [xm_tc] at ht)
  · simp only [Option.some.injEq, Prod.mk.injEq] at hp
    obtain ⟨rfl, rfl⟩ := hp
    refine ⟨rfl, fun _ => rfl, fun σ b m hb => xm_get_sr hb, key _ (fun σ b hb => xm_gsr hb) (by simp [xm_get, xm_r, xm_sr, xm_u2, va_rf]), ?_, ?_⟩ <;> cases ty <;> first | rfl | (simp [xm_tc] at ht)
  · cases hp
theorem xm_cb8 (ay : ArrayType) : componentBytes (newarray.typeOf ay) ≤ 8 := by cases ay <;> decide
theorem xm_get_fresh (σ : Nat) (h : xm_H) (κ : Nat × Nat) (i : Nat) : xm_get σ (xm_new h κ) (xm_n h) i = match σ with
    | 4 => .long 0
    | 5 => .double 0
    | 6 => .null
    | _ => .int 0 := by
  unfold xm_get
  split <;> simp [xm_new, xm_l, xm_d, xm_r, xm_i, xm_z, xm_n, va_rf]
theorem xm_fresh {D : va_G} {aC : Nat → ClassId} {ad : Nat → Nat} {h : xm_H} {t j n : Nat} {ty : FieldType} (ht : t = 100 + j) (hj : j < 9) (ha : xat[j]? = some ty) : xm_Cc D aC ad (xm_new h (t, n)) (xm_n h) (arrV (aC j) n (fun _ => defaultValue ty)) := by
  subst ht
  have hk : xm_k (xm_new h (100 + j, n)) (xm_n h) = (100 + j, n) := by simp [xm_k, xm_new, xm_n]
  refine ⟨fun q => by rw [hk] at q; dsimp only at q; omega, fun _ => ?_⟩
  rw [hk]
  dsimp only
  rw [Nat.add_sub_cancel_left]
  congr 1
  funext i
  rw [xm_get_fresh]
  match j, ha with
  | 0, ha => cases ha; rfl
  | 1, ha => cases ha; rfl
  | 2, ha => cases ha; rfl
  | 3, ha => cases ha; rfl
  | 4, ha => cases ha; rfl
  | 5, ha => cases ha; rfl
  | 6, ha => cases ha; rfl
  | 7, ha => cases ha; rfl
  | 8, ha => cases ha; rfl
  | n + 9, ha => simp at ha
theorem xm_freshO {D : va_G} {aC : Nat → ClassId} {ad : Nat → Nat} {h : xm_H} {t : Nat} {q : vw_C} {ty : Nat → FieldType} {cell : Cell} (hq : xcl[t]? = some q) (ht : t < 14) (hy : xft[t]? = some ty) (hnf : ∀ k, k < q.2.2 → ty k ≠ .float) (h1 : cell.cls = D.1 t) (h2 : cell.vm = .none) (h3 : ∀ k, k < q.2.2 → cell.slots[D.2 t k]? = some (defaultValue (ty k))) : xm_Cc D aC ad (xm_new h (t, 0)) (xm_n h) cell := by
  have hk : xm_k (xm_new h (t, 0)) (xm_n h) = (t, 0) := by simp [xm_k, xm_new, xm_n]
  have hN : xm_fN t = q.2.2 := by unfold xm_fN; rw [hq]
  refine ⟨fun _ => ?_, fun q => by rw [hk] at q; dsimp only at q; omega⟩
  rw [hk]
  dsimp only
  rw [hN]
  refine ⟨h1, h2, fun k hk2 => ?_⟩
  have e9 : xm_fty t k = ty k := by unfold xm_fty; rw [hy]
  rw [h3 k hk2, e9, xm_get_fresh]
  have := hnf k hk2
  cases hc : ty k <;> first | rfl | exact absurd hc this
theorem xm_fcls {args : Array Value} {s : State} {C O f d : String} {cf fi : Nat} {kf : Class} {fd : Field} (hlay : (Cond.laysFinal C O f d).before args s = true) (hi : s.fieldFound? O f d = some (cf, kf, fi, fd)) : s.vm.findClass O = some cf := by
  obtain ⟨_, _, c', _, _, _, -, -, hf', -, -, -, hown2, -⟩ := Cond.laysFinal_spec hlay
  have e1 : c' = cf := by have := hi.symm.trans hf'; simp at this; exact this.1.symm
  rw [← e1]; exact hown2
section Sim
variable {SL : xm_SL} {ZL : xm_ZL} {QL : xm_QL} {D : va_G} {aC : Nat → ClassId} {ct : xm_K} {H0 : Heap}
variable {p : Program} {l : Launch} {e : Env} {R : Room} {s : State} {m : MethodId} {args : Array Value} {below : List Frame} {meth : Method} {c : Code} {M : xm_M} {n0 z0 : Nat} {Z : State → Prop}
/-- the real machine, at this point of the little one, comes to Z -/
def xm_To (D : va_G) (aC : Nat → ClassId) (ct : xm_K) (H0 : Heap) (p : Program) (l : Launch) (e : Env) (R : Room) (s : State) (m : MethodId) (args : Array Value) (below : List Frame) (meth : Method) (c : Code) (M : xm_M) (n0 z0 : Nat) (Z : State → Prop) (pc : Nat) (ls : xm_L) (st : List Value) (h : xm_H) : Prop :=
  ∀ (lr : Array Slot) (H : Heap) (locs : List Loc), xm_R D aC ct H0 h H → xm_lh (xm_ad H0.size ct) lr ls → (∀ l ∈ locs, H0.size ≤ l.base) → ls.length = M.2.2.2.2.1 → W p l e R s m args below meth c H locs (xm_n h - n0) (xm_sz h - z0) Z (F0 m pc lr (st.map (xm_cv (xm_ad H0.size ct))))
/-- an object's field -/
theorem xm_obj (hts : ∀ w ∈ xgd, w.before args s = true) (hK : va_K D xcl (xtys aC) s) {h : xm_H} {H : Heap} (hR : xm_R D aC ct H0 h H) {a t k : Nat} (haK : xK ≤ a) (hk : (xm_k h a).1 = t) {q : vw_C} (hq : xcl[t]? = some q) (ht : t < 14) (hkN : k < q.2.2) :
    ∃ (cell : Cell) (cf : ClassId) (kf : Class) (fi : Nat) (f : Field) (kC : Class), H[xm_ad H0.size ct a]? = some cell ∧ cell.cls = D.1 t ∧ cell.vm = .none ∧ (∀ j, j < q.2.2 → cell.slots[D.2 t j]? = some (xm_cv (xm_ad H0.size ct) (xm_get (xm_tc (xm_fty t j)) h a j))) ∧
      s.fieldFound? (q.2.1 k).1 (q.2.1 k).2.1 (q.2.1 k).2.2.1 = some (cf, kf, fi, f) ∧ f.slot = D.2 t k ∧ f.isStatic = false ∧ s.vm.findClass q.1 = some (D.1 t) ∧ s.vm.classes[D.1 t]? = some kC ∧ kC.kind = .ordinary := by
  subst hk
  obtain ⟨cell, h1, h2, -⟩ := hR.cell (a := a) haK (by omega)
  obtain ⟨g1, g2, g3⟩ := h2 (by omega)
  have hN : xm_fN (xm_k h a).1 = q.2.2 := by unfold xm_fN; rw [hq]
  rw [hN] at g3
  obtain ⟨hS, hfc, kC, hkC, hkind⟩ := hK.1 _ q hq
  obtain ⟨cf, kf, fi, f, hi, hsl⟩ := hS k hkN
  obtain ⟨ty, -, hin, -⟩ := xO _ q hq ht
  exact ⟨cell, cf, kf, fi, f, kC, h1, g1, g2, g3, hi, hsl, (u_facts hfc hkC (u_lays hts hin hkN) hi).1, hfc, hkC, hkind⟩
/-- a field is read -/
theorem xm_objR (hts : ∀ w ∈ xgd, w.before args s = true) (hK : va_K D xcl (xtys aC) s) (hKc : xm_Kc ct H0 s) {h : xm_H} {H : Heap} (hR : xm_R D aC ct H0 h H) {a t k : Nat} (hk : (xm_k h a).1 = t) {q : vw_C} (hq : xcl[t]? = some q) (ht : t < 14) (hkN : k < q.2.2) :
    ∃ (cell : Cell) (cf : ClassId) (kf : Class) (fi : Nat) (f : Field), H[xm_ad H0.size ct a]? = some cell ∧ cell.vm ≠ .unknown ∧ cell.slots[f.slot]? = some (xm_cv (xm_ad H0.size ct) (xm_get (xm_tc (xm_fty t k)) h a k)) ∧ s.fieldFound? (q.2.1 k).1 (q.2.1 k).2.1 (q.2.1 k).2.2.1 = some (cf, kf, fi, f) ∧ f.isStatic = false := by
  by_cases haK : xK ≤ a
  · obtain ⟨cell, cf, kf, fi, f, kC, g1, g2, g3, g4, g5, g6, g7, -⟩ := xm_obj hts hK hR haK hk hq ht hkN
    exact ⟨cell, cf, kf, fi, f, g1, (by rw [g3]; exact fun h => by cases h), by rw [g6]; exact g4 k hkN, g5, g7⟩
  · have hlt : a < xK := Nat.not_le.mp haK
    obtain ⟨c1, c2⟩ := hR.2.2.2.1 a hlt
    rw [c1] at hk
    obtain ⟨q', e1, e2, e3⟩ := (hKc a hlt (by omega)).1 (by omega)
    rw [hk] at e1
    cases Option.some.inj (e1.symm.trans hq)
    obtain ⟨cf, kf, fi, f, cell, f1, f2, f3, f4, f5, f6⟩ := e3 k hkN
    have had : xm_ad H0.size ct a = ct.1 a := by unfold xm_ad; rw [if_pos hlt]
    refine ⟨cell, cf, kf, fi, f, ?_, f4, ?_, f1, f2⟩
    · rw [had, hR.2.2.1 _ (Nat.not_le.mp f6)]; exact f3
    · rw [c2, ← hk]; exact f5
/-- a row is read -/
theorem xm_rowR (hK : va_K D xcl (xtys aC) s) (hKc : xm_Kc ct H0 s) {h : xm_H} {H : Heap} (hR : xm_R D aC ct H0 h H) {a j : Nat} {ty : FieldType} (hk : (xm_k h a).1 = 100 + j) (hj : xat[j]? = some ty) :
    ∃ cell : Cell, H[xm_ad H0.size ct a]? = some cell ∧ s.isArrayOf cell ty ∧ cell.vm ≠ .unknown ∧ (xm_k h a).2 ≤ cell.slots.size ∧ cell.slots.size.toInt32 = Int32.ofNat (xm_k h a).2 ∧ ∀ i, i < (xm_k h a).2 → cell.slots[i]? = some (xm_cv (xm_ad H0.size ct) (xm_get (xm_et (100 + j)) h a i)) := by
  have hj9 : j < 9 := (List.getElem?_eq_some_iff.mp hj).1
  by_cases haK : xK ≤ a
  · obtain ⟨cell, h1, -, h2⟩ := hR.cell (a := a) haK (by omega)
    have h3 := h2 (by omega)
    rw [hk, Nat.add_sub_cancel_left] at h3
    subst h3
    exact ⟨_, h1, (hK.2 j _ (xtys_at hj)).1 _ _, (fun q => by cases q), (by rw [arrV_size]; exact Nat.le_refl _), (by rw [arrV_size]), fun i hi => arrV_read _ _ hi⟩
  · have hlt : a < xK := Nat.not_le.mp haK
    obtain ⟨c1, c2⟩ := hR.2.2.2.1 a hlt
    have hk9 := hk
    rw [c1] at hk9
    obtain ⟨ty', e1, cell, f1, f2, f3, f4, f5, f6, f7⟩ := (hKc a hlt (by omega)).2 (by omega)
    rw [hk9, Nat.add_sub_cancel_left] at e1
    cases Option.some.inj (e1.symm.trans hj)
    have had : xm_ad H0.size ct a = ct.1 a := by unfold xm_ad; rw [if_pos hlt]
    refine ⟨cell, ?_, f2, f3, ?_, ?_, fun i hi => ?_⟩
    · rw [had, hR.2.2.1 _ (Nat.not_le.mp f7)]; exact f1
    · rw [c1]; exact f4
    · rw [c1]; exact f5
    · rw [c1] at hi
      rw [f6 i hi, c2, hk9]
/-- a row -/
theorem xm_row {h : xm_H} {H : Heap} (hR : xm_R D aC ct H0 h H) {a j : Nat} (haK : xK ≤ a) (hk : (xm_k h a).1 = 100 + j) (hj : j < 100) : H[xm_ad H0.size ct a]? = some (arrV (aC j) (xm_k h a).2 (fun i => xm_cv (xm_ad H0.size ct) (xm_get (xm_et (100 + j)) h a i))) := by
  obtain ⟨cell, h1, -, h2⟩ := hR.cell (a := a) haK (by omega)
  have h3 := h2 (by omega)
  rw [hk, Nat.add_sub_cancel_left] at h3
  rw [h1, h3]
theorem xm_ar (hK : va_K D xcl (xtys aC) s) {j : Nat} {ty : FieldType} (h : xat[j]? = some ty) (n : Nat) (z : Nat → Value) : s.isArrayOf (arrV (aC j) n z) ty := (hK.2 j _ (xtys_at h)).1 n z
theorem xm_lt {j : Int32} {n : Nat} (h : vp_in j n) : j.toNatClampNeg < n := Nat.not_le.mp fun q => h (Or.inr q)
theorem xm_innR {j : Int32} {n m : Nat} (h : vp_in j n) (hm : n ≤ m) : ¬ (j < 0 ∨ m ≤ j.toNatClampNeg) := fun q => h (q.imp id (fun z => Nat.le_trans hm z))
theorem xm_inn {j : Int32} {n : Nat} (h : vp_in j n) (cI : ClassId) (f : Nat → Value) : ¬ (j < 0 ∨ (arrV cI n f).slots.size ≤ j.toNatClampNeg) := by rw [arrV_size]; exact h
/-- a row is written -/
theorem xm_R.row {h h' : xm_H} {H H1 : Heap} (hR : xm_R D aC ct H0 h H) {a j i : Nat} {v : Value} (hk : (xm_k h a).1 = 100 + j) (hj : j < 100) (ha : xK ≤ a) (hn : xm_n h' = xm_n h) (hk2 : ∀ i, xm_k h' i = xm_k h i) (hg : ∀ τ b m, b ≠ a → xm_get τ h' b m = xm_get τ h b m)
    (hv : ∀ b, xm_cv (xm_ad H0.size ct) (xm_get (xm_et (100 + j)) h' a b) = updV (fun b => xm_cv (xm_ad H0.size ct) (xm_get (xm_et (100 + j)) h a b)) i v b)
    (hc : H1[xm_ad H0.size ct a]? = some ((arrV (aC j) (xm_k h a).2 (fun i => xm_cv (xm_ad H0.size ct) (xm_get (xm_et (100 + j)) h a i))).setSlot i v)) (hz : H1.size = H.size) (ho : ∀ q, q ≠ xm_ad H0.size ct a → H1[q]? = H[q]?) : xm_R D aC ct H0 h' H1 := by
  refine hR.upd ha (by omega) hn hk2 hg hz ho hc ⟨fun q => ?_, fun _ => ?_⟩
  · rw [hk2, hk] at q; omega
  · rw [arrV_store, hk2, hk, Nat.add_sub_cancel_left]
    congr 1
    funext b
    exact (hv b).symm
/-- an object's field is written -/
theorem xm_R.fld (hts : ∀ w ∈ xgd, w.before args s = true) (hK : va_K D xcl (xtys aC) s) {h h' : xm_H} {H H1 : Heap} (hR : xm_R D aC ct H0 h H) {a t k : Nat} {v : Value} {cell : Cell} (hk : (xm_k h a).1 = t) {q : vw_C} (hq : xcl[t]? = some q) (ht : t < 14) (hkN : k < q.2.2) (ha : xK ≤ a) (hn : xm_n h' = xm_n h) (hk2 : ∀ i, xm_k h' i = xm_k h i) (hg : ∀ τ b m, b ≠ a → xm_get τ h' b m = xm_get τ h b m)
    (hv : ∀ b, b < q.2.2 → xm_cv (xm_ad H0.size ct) (xm_get (xm_tc (xm_fty t b)) h' a b) = updV (fun b => xm_cv (xm_ad H0.size ct) (xm_get (xm_tc (xm_fty t b)) h a b)) k v b)
    (h1 : cell.cls = D.1 t) (h2 : cell.vm = .none) (h3 : ∀ j, j < q.2.2 → cell.slots[D.2 t j]? = some (xm_cv (xm_ad H0.size ct) (xm_get (xm_tc (xm_fty t j)) h a j)))
    (hc : H1[xm_ad H0.size ct a]? = some (cell.setSlot (D.2 t k) v)) (hz : H1.size = H.size) (ho : ∀ q, q ≠ xm_ad H0.size ct a → H1[q]? = H[q]?) : xm_R D aC ct H0 h' H1 := by
  obtain ⟨ty, -, hin, hnm, hty, -⟩ := xO _ q hq ht
  have hap := va_apart (own := "") (D := D) (cl := xcl) (tys := xtys aC) (C := q.1) (T := q.2.1) (N := q.2.2) hts hin ty hty hnm hK hq
  have hN : xm_fN t = q.2.2 := by unfold xm_fN; rw [hq]
  have h4 := t_set h3 hap hkN v
  refine hR.upd ha (by omega) hn hk2 hg hz ho hc ⟨fun _ => ?_, fun q => ?_⟩
  · rw [hk2, hk, hN]
    refine ⟨h1, h2, fun j hj => ?_⟩
    rw [h4 j hj, ← hv j hj]
  · rw [hk2, hk] at q; omega

set_option maxHeartbeats 4000000 in
set_option maxRecDepth 100000 in
theorem xm_simG (Fx : xm_Fx SL ZL QL D aC ct H0 p s m args meth c M) {i : Instr} {mk : Option (List Bool)} {pl : List Nat} {cv : Value} {pc pc' : Nat} {ls ls' : xm_L} {st st' : List Value} {h h' : xm_H} {φ : Prop}
    (hd : decode M.2.2.2.1 pc = .ok (i, xm_lenE (i, mk, pl, cv))) (hok : xm_okG SL ZL M.2.2.1.cls M.2.2.1.name pc (i, mk, pl, cv)) (hG : xm_G i pl cv pc ls st h = some (φ, pc', ls', st', h')) (hφ : φ) (hn0 : n0 ≤ xm_n h) (hz0 : z0 ≤ xm_sz h) (hrc : xm_n h' - n0 ≤ R.cells) (hrs : xm_sz h' - z0 ≤ R.slots)
    (k : xm_To D aC ct H0 p l e R s m args below meth c M n0 z0 Z pc' ls' st' h') : xm_To D aC ct H0 p l e R s m args below meth c M n0 z0 Z pc ls st h := by
  obtain ⟨hx, hb, hml, hown, hts, ⟨hK, hSL, hZL, -, -, hAO, -, -, -, hKc⟩, -, hnm, hold, hszs⟩ := Fx
  cases i
  all_goals (try (cases hG; done))
  case aconst_null =>
    simp only [xm_G, xm_ok, Option.some.injEq, Prod.mk.injEq] at hG
    obtain ⟨rfl, rfl, rfl, rfl, rfl⟩ := hG
    intro lr H locs hR hl hlo hlen
    exact lv_null hx hb hd (k lr H locs hR hl hlo hlen)
  case iconst v =>
    simp only [xm_G, xm_ok, Option.some.injEq, Prod.mk.injEq] at hG
    obtain ⟨rfl, rfl, rfl, rfl, rfl⟩ := hG
    intro lr H locs hR hl hlo hlen
    exact lv_iconst hx hb hd rfl (k lr H locs hR hl hlo hlen)
  case bipush v =>
    simp only [xm_G, xm_ok, Option.some.injEq, Prod.mk.injEq] at hG
    obtain ⟨rfl, rfl, rfl, rfl, rfl⟩ := hG
    intro lr H locs hR hl hlo hlen
    exact lv_bipush hx hb hd rfl (k lr H locs hR hl hlo hlen)
  case sipush v =>
    simp only [xm_G, xm_ok, Option.some.injEq, Prod.mk.injEq] at hG
    obtain ⟨rfl, rfl, rfl, rfl, rfl⟩ := hG
    intro lr H locs hR hl hlo hlen
    exact lv_sipush hx hb hd rfl (k lr H locs hR hl hlo hlen)
  case lconst v =>
    simp only [xm_G, xm_ok, Option.some.injEq, Prod.mk.injEq] at hG
    obtain ⟨rfl, rfl, rfl, rfl, rfl⟩ := hG
    intro lr H locs hR hl hlo hlen
    exact lv_lconst hx hb hd rfl (k lr H locs hR hl hlo hlen)
  case dconst v =>
    simp only [xm_G] at hG
    split at hG
    · simp only [xm_ok, Option.some.injEq, Prod.mk.injEq] at hG
      obtain ⟨rfl, rfl, rfl, rfl, rfl⟩ := hG
      intro lr H locs hR hl hlo hlen
      exact lv_dconst0 hx hb hd (k lr H locs hR hl hlo hlen)
    · cases hG
  case ldc v =>
    simp only [xm_G, xm_ok, Option.some.injEq, Prod.mk.injEq] at hG
    obtain ⟨rfl, rfl, rfl, rfl, rfl⟩ := hG
    intro lr H locs hR hl hlo hlen
    simp only [xm_okG] at hok
    split at hok
    · exact lv_ldc hx hb hown (hts _ hok) hd (k lr H locs hR hl hlo hlen)
    · obtain ⟨tx, htx⟩ := hok
      exact va_ldcS hx hb hown (hSL _ htx) hd (k lr H locs hR hl hlo hlen)
    · exact hok.elim
  case ldc_w v =>
    simp only [xm_G, xm_ok, Option.some.injEq, Prod.mk.injEq] at hG
    obtain ⟨rfl, rfl, rfl, rfl, rfl⟩ := hG
    intro lr H locs hR hl hlo hlen
    simp only [xm_okG] at hok
    split at hok
    · exact lv_ldcw hx hb hown (hts _ hok) hd (k lr H locs hR hl hlo hlen)
    · obtain ⟨tx, htx⟩ := hok
      have hZ := hSL _ htx
      intro T hT X
      obtain ⟨t, a1, b1⟩ := k lr H locs hR hl hlo hlen T hT X
      exact ⟨t, X.ldcStringW hx hown (text := tx) (a := xm_ad H0.size ct _) hZ.1 hZ.2 (g := F0 m pc lr (st.map (xm_cv (xm_ad H0.size ct)))) rfl (by rw [hb]; exact hd) t a1, b1⟩
    · exact hok.elim
  case ldc2_w v =>
    simp only [xm_G, xm_ok, Option.some.injEq, Prod.mk.injEq] at hG
    obtain ⟨rfl, rfl, rfl, rfl, rfl⟩ := hG
    intro lr H locs hR hl hlo hlen
    simp only [xm_okG] at hok
    split at hok
    · exact lv_ldc2 hx hb hown (hts _ hok) hd (k lr H locs hR hl hlo hlen)
    · exact hok.elim
  case iload_n q =>
    obtain ⟨v, hv, hq, hc⟩ := xm_gl_spec hG
    simp only [Prod.mk.injEq] at hq
    obtain ⟨rfl, rfl, rfl, rfl, rfl⟩ := hq
    intro lr H locs hR hl hlo hlen
    rcases hc with ⟨ht, x, rfl⟩ | ⟨ht, x, rfl⟩ | ⟨ht, x, rfl⟩ | ⟨ht, x, rfl⟩ | ⟨ht, rfl⟩
    · exact lv_iload_n hx hb hd rfl (hl.2.2 _ _ (xm_ld_some hv)) (k lr H locs hR hl hlo hlen)
    · exact absurd ht (by decide)
    · exact absurd ht (by decide)
    · exact absurd ht (by decide)
    · exact absurd ht (by decide)
  case iload q =>
    obtain ⟨v, hv, hq, hc⟩ := xm_gl_spec hG
    simp only [Prod.mk.injEq] at hq
    obtain ⟨rfl, rfl, rfl, rfl, rfl⟩ := hq
    intro lr H locs hR hl hlo hlen
    rcases hc with ⟨ht, x, rfl⟩ | ⟨ht, x, rfl⟩ | ⟨ht, x, rfl⟩ | ⟨ht, x, rfl⟩ | ⟨ht, rfl⟩
    · exact lv_iload hx hb hd (hl.2.2 _ _ (xm_ld_some hv)) (k lr H locs hR hl hlo hlen)
    · exact absurd ht (by decide)
    · exact absurd ht (by decide)
    · exact absurd ht (by decide)
    · exact absurd ht (by decide)
  case lload_n q =>
    obtain ⟨v, hv, hq, hc⟩ := xm_gl_spec hG
    simp only [Prod.mk.injEq] at hq
    obtain ⟨rfl, rfl, rfl, rfl, rfl⟩ := hq
    intro lr H locs hR hl hlo hlen
    rcases hc with ⟨ht, x, rfl⟩ | ⟨ht, x, rfl⟩ | ⟨ht, x, rfl⟩ | ⟨ht, x, rfl⟩ | ⟨ht, rfl⟩
    · exact absurd ht (by decide)
    · exact lv_lload_n hx hb hd rfl (hl.2.2 _ _ (xm_ld_some hv)) (k lr H locs hR hl hlo hlen)
    · exact absurd ht (by decide)
    · exact absurd ht (by decide)
    · exact absurd ht (by decide)
  case lload q =>
    obtain ⟨v, hv, hq, hc⟩ := xm_gl_spec hG
    simp only [Prod.mk.injEq] at hq
    obtain ⟨rfl, rfl, rfl, rfl, rfl⟩ := hq
    intro lr H locs hR hl hlo hlen
    rcases hc with ⟨ht, x, rfl⟩ | ⟨ht, x, rfl⟩ | ⟨ht, x, rfl⟩ | ⟨ht, x, rfl⟩ | ⟨ht, rfl⟩
    · exact absurd ht (by decide)
    · exact lv_lload hx hb hd (hl.2.2 _ _ (xm_ld_some hv)) (k lr H locs hR hl hlo hlen)
    · exact absurd ht (by decide)
    · exact absurd ht (by decide)
    · exact absurd ht (by decide)
  case dload_n q =>
    obtain ⟨v, hv, hq, hc⟩ := xm_gl_spec hG
    simp only [Prod.mk.injEq] at hq
    obtain ⟨rfl, rfl, rfl, rfl, rfl⟩ := hq
    intro lr H locs hR hl hlo hlen
    rcases hc with ⟨ht, x, rfl⟩ | ⟨ht, x, rfl⟩ | ⟨ht, x, rfl⟩ | ⟨ht, x, rfl⟩ | ⟨ht, rfl⟩
    · exact absurd ht (by decide)
    · exact absurd ht (by decide)
    · exact lv_dload_n hx hb hd rfl (hl.2.2 _ _ (xm_ld_some hv)) (k lr H locs hR hl hlo hlen)
    · exact absurd ht (by decide)
    · exact absurd ht (by decide)
  case dload q =>
    obtain ⟨v, hv, hq, hc⟩ := xm_gl_spec hG
    simp only [Prod.mk.injEq] at hq
    obtain ⟨rfl, rfl, rfl, rfl, rfl⟩ := hq
    intro lr H locs hR hl hlo hlen
    rcases hc with ⟨ht, x, rfl⟩ | ⟨ht, x, rfl⟩ | ⟨ht, x, rfl⟩ | ⟨ht, x, rfl⟩ | ⟨ht, rfl⟩
    · exact absurd ht (by decide)
    · exact absurd ht (by decide)
    · exact lv_dload hx hb hd (hl.2.2 _ _ (xm_ld_some hv)) (k lr H locs hR hl hlo hlen)
    · exact absurd ht (by decide)
    · exact absurd ht (by decide)
  case aload_n q =>
    obtain ⟨v, hv, hq, hc⟩ := xm_gl_spec hG
    simp only [Prod.mk.injEq] at hq
    obtain ⟨rfl, rfl, rfl, rfl, rfl⟩ := hq
    intro lr H locs hR hl hlo hlen
    rcases hc with ⟨ht, x, rfl⟩ | ⟨ht, x, rfl⟩ | ⟨ht, x, rfl⟩ | ⟨ht, x, rfl⟩ | ⟨ht, rfl⟩
    · exact absurd ht (by decide)
    · exact absurd ht (by decide)
    · exact absurd ht (by decide)
    · exact lv_aload_n hx hb hd rfl (hl.2.2 _ _ (xm_ld_some hv)) (k lr H locs hR hl hlo hlen)
    · exact lv_aload_nN hx hb hd rfl (hl.2.2 _ _ (xm_ld_some hv)) (k lr H locs hR hl hlo hlen)
  case aload q =>
    obtain ⟨v, hv, hq, hc⟩ := xm_gl_spec hG
    simp only [Prod.mk.injEq] at hq
    obtain ⟨rfl, rfl, rfl, rfl, rfl⟩ := hq
    intro lr H locs hR hl hlo hlen
    rcases hc with ⟨ht, x, rfl⟩ | ⟨ht, x, rfl⟩ | ⟨ht, x, rfl⟩ | ⟨ht, x, rfl⟩ | ⟨ht, rfl⟩
    · exact absurd ht (by decide)
    · exact absurd ht (by decide)
    · exact absurd ht (by decide)
    · exact lv_aload hx hb hd (hl.2.2 _ _ (xm_ld_some hv)) (k lr H locs hR hl hlo hlen)
    · exact lv_aloadN hx hb hd (hl.2.2 _ _ (xm_ld_some hv)) (k lr H locs hR hl hlo hlen)
  case istore_n q =>
    obtain ⟨v, r, rfl, hc⟩ := xm_pl_spec hG
    intro lr H locs hR hl hlo hlen
    rcases hc with ⟨ht, ⟨x, rfl⟩, hq⟩ | ⟨ht, ⟨x, rfl⟩, hq⟩ | ⟨ht, ⟨x, rfl⟩, hq⟩ | ⟨ht, ⟨x, rfl⟩, hq⟩ | ⟨ht, rfl, hq⟩
    · simp only [Prod.mk.injEq] at hq
      obtain ⟨rfl, rfl, rfl, rfl, rfl⟩ := hq
      exact lv_istore_n hx hb hd rfl hl.has hφ rfl (fun lr' hl' => k lr' H locs hR (xm_lh.store hφ hl') hlo (by rw [xm_st_len]; exact hlen))
    · exact absurd ht (by decide)
    · exact absurd ht (by decide)
    · exact absurd ht (by decide)
    · exact absurd ht (by decide)
  case istore q =>
    obtain ⟨v, r, rfl, hc⟩ := xm_pl_spec hG
    intro lr H locs hR hl hlo hlen
    rcases hc with ⟨ht, ⟨x, rfl⟩, hq⟩ | ⟨ht, ⟨x, rfl⟩, hq⟩ | ⟨ht, ⟨x, rfl⟩, hq⟩ | ⟨ht, ⟨x, rfl⟩, hq⟩ | ⟨ht, rfl, hq⟩
    · simp only [Prod.mk.injEq] at hq
      obtain ⟨rfl, rfl, rfl, rfl, rfl⟩ := hq
      exact lv_istore hx hb hd hl.has hφ rfl (fun lr' hl' => k lr' H locs hR (xm_lh.store hφ hl') hlo (by rw [xm_st_len]; exact hlen))
    · exact absurd ht (by decide)
    · exact absurd ht (by decide)
    · exact absurd ht (by decide)
    · exact absurd ht (by decide)
  case lstore_n q =>
    obtain ⟨v, r, rfl, hc⟩ := xm_pl_spec hG
    intro lr H locs hR hl hlo hlen
    rcases hc with ⟨ht, ⟨x, rfl⟩, hq⟩ | ⟨ht, ⟨x, rfl⟩, hq⟩ | ⟨ht, ⟨x, rfl⟩, hq⟩ | ⟨ht, ⟨x, rfl⟩, hq⟩ | ⟨ht, rfl, hq⟩
    · exact absurd ht (by decide)
    · simp only [Prod.mk.injEq] at hq
      obtain ⟨rfl, rfl, rfl, rfl, rfl⟩ := hq
      exact lv_lstore_n hx hb hd rfl hl.has hφ rfl (fun lr' hl' => k lr' H locs hR (xm_lh.store2 hφ hl') hlo (by rw [xm_st2_len]; exact hlen))
    · exact absurd ht (by decide)
    · exact absurd ht (by decide)
    · exact absurd ht (by decide)
  case lstore q =>
    obtain ⟨v, r, rfl, hc⟩ := xm_pl_spec hG
    intro lr H locs hR hl hlo hlen
    rcases hc with ⟨ht, ⟨x, rfl⟩, hq⟩ | ⟨ht, ⟨x, rfl⟩, hq⟩ | ⟨ht, ⟨x, rfl⟩, hq⟩ | ⟨ht, ⟨x, rfl⟩, hq⟩ | ⟨ht, rfl, hq⟩
    · exact absurd ht (by decide)
    · simp only [Prod.mk.injEq] at hq
      obtain ⟨rfl, rfl, rfl, rfl, rfl⟩ := hq
      exact lv_lstore hx hb hd hl.has hφ rfl (fun lr' hl' => k lr' H locs hR (xm_lh.store2 hφ hl') hlo (by rw [xm_st2_len]; exact hlen))
    · exact absurd ht (by decide)
    · exact absurd ht (by decide)
    · exact absurd ht (by decide)
  case dstore_n q =>
    obtain ⟨v, r, rfl, hc⟩ := xm_pl_spec hG
    intro lr H locs hR hl hlo hlen
    rcases hc with ⟨ht, ⟨x, rfl⟩, hq⟩ | ⟨ht, ⟨x, rfl⟩, hq⟩ | ⟨ht, ⟨x, rfl⟩, hq⟩ | ⟨ht, ⟨x, rfl⟩, hq⟩ | ⟨ht, rfl, hq⟩
    · exact absurd ht (by decide)
    · exact absurd ht (by decide)
    · simp only [Prod.mk.injEq] at hq
      obtain ⟨rfl, rfl, rfl, rfl, rfl⟩ := hq
      exact lv_dstore_n hx hb hd rfl hl.has hφ rfl (fun lr' hl' => k lr' H locs hR (xm_lh.store2 hφ hl') hlo (by rw [xm_st2_len]; exact hlen))
    · exact absurd ht (by decide)
    · exact absurd ht (by decide)
  case dstore q =>
    obtain ⟨v, r, rfl, hc⟩ := xm_pl_spec hG
    intro lr H locs hR hl hlo hlen
    rcases hc with ⟨ht, ⟨x, rfl⟩, hq⟩ | ⟨ht, ⟨x, rfl⟩, hq⟩ | ⟨ht, ⟨x, rfl⟩, hq⟩ | ⟨ht, ⟨x, rfl⟩, hq⟩ | ⟨ht, rfl, hq⟩
    · exact absurd ht (by decide)
    · exact absurd ht (by decide)
    · simp only [Prod.mk.injEq] at hq
      obtain ⟨rfl, rfl, rfl, rfl, rfl⟩ := hq
      exact lv_dstore hx hb hd hl.has hφ rfl (fun lr' hl' => k lr' H locs hR (xm_lh.store2 hφ hl') hlo (by rw [xm_st2_len]; exact hlen))
    · exact absurd ht (by decide)
    · exact absurd ht (by decide)
  case astore_n q =>
    obtain ⟨v, r, rfl, hc⟩ := xm_pl_spec hG
    intro lr H locs hR hl hlo hlen
    rcases hc with ⟨ht, ⟨x, rfl⟩, hq⟩ | ⟨ht, ⟨x, rfl⟩, hq⟩ | ⟨ht, ⟨x, rfl⟩, hq⟩ | ⟨ht, ⟨x, rfl⟩, hq⟩ | ⟨ht, rfl, hq⟩
    · exact absurd ht (by decide)
    · exact absurd ht (by decide)
    · exact absurd ht (by decide)
    · simp only [Prod.mk.injEq] at hq
      obtain ⟨rfl, rfl, rfl, rfl, rfl⟩ := hq
      exact lv_astore_n hx hb hd rfl hl.has hφ rfl (fun lr' hl' => k lr' H locs hR (xm_lh.store hφ hl') hlo (by rw [xm_st_len]; exact hlen))
    · simp only [Prod.mk.injEq] at hq
      obtain ⟨rfl, rfl, rfl, rfl, rfl⟩ := hq
      exact lv_astore_nN hx hb hd rfl hl.has hφ rfl (fun lr' hl' => k lr' H locs hR (xm_lh.store hφ hl') hlo (by rw [xm_st_len]; exact hlen))
  case astore q =>
    obtain ⟨v, r, rfl, hc⟩ := xm_pl_spec hG
    intro lr H locs hR hl hlo hlen
    rcases hc with ⟨ht, ⟨x, rfl⟩, hq⟩ | ⟨ht, ⟨x, rfl⟩, hq⟩ | ⟨ht, ⟨x, rfl⟩, hq⟩ | ⟨ht, ⟨x, rfl⟩, hq⟩ | ⟨ht, rfl, hq⟩
    · exact absurd ht (by decide)
    · exact absurd ht (by decide)
    · exact absurd ht (by decide)
    · simp only [Prod.mk.injEq] at hq
      obtain ⟨rfl, rfl, rfl, rfl, rfl⟩ := hq
      exact lv_astore hx hb hd hl.has hφ rfl (fun lr' hl' => k lr' H locs hR (xm_lh.store hφ hl') hlo (by rw [xm_st_len]; exact hlen))
    · simp only [Prod.mk.injEq] at hq
      obtain ⟨rfl, rfl, rfl, rfl, rfl⟩ := hq
      exact lv_astoreN hx hb hd hl.has hφ rfl (fun lr' hl' => k lr' H locs hR (xm_lh.store hφ hl') hlo (by rw [xm_st_len]; exact hlen))
  case iinc q v =>
    simp only [xm_G] at hG
    split at hG
    · rename_i x hv
      simp only [Option.some.injEq, Prod.mk.injEq] at hG
      obtain ⟨rfl, rfl, rfl, rfl, rfl⟩ := hG
      intro lr H locs hR hl hlo hlen
      obtain ⟨j, hj⟩ := List.getElem?_of_mem (xm_lv_mem (ad := xm_ad H0.size ct) (xm_ld_some hv))
      exact lv_iinc hx hb hd hl.has hj rfl hφ rfl (fun lr' hl' => k lr' H locs hR (xm_lh.store hφ hl') hlo (by rw [xm_st_len]; exact hlen))
    · cases hG
  case iadd =>
    simp only [xm_G, xm_ii] at hG
    split at hG
    · simp only [xm_ok, Option.some.injEq, Prod.mk.injEq] at hG
      obtain ⟨rfl, rfl, rfl, rfl, rfl⟩ := hG
      intro lr H locs hR hl hlo hlen
      exact lv_iadd hx hb hd (k lr H locs hR hl hlo hlen)
    · cases hG
  case isub =>
    simp only [xm_G, xm_ii] at hG
    split at hG
    · simp only [xm_ok, Option.some.injEq, Prod.mk.injEq] at hG
      obtain ⟨rfl, rfl, rfl, rfl, rfl⟩ := hG
      intro lr H locs hR hl hlo hlen
      exact lv_isub hx hb hd (k lr H locs hR hl hlo hlen)
    · cases hG
  case imul =>
    simp only [xm_G, xm_ii] at hG
    split at hG
    · simp only [xm_ok, Option.some.injEq, Prod.mk.injEq] at hG
      obtain ⟨rfl, rfl, rfl, rfl, rfl⟩ := hG
      intro lr H locs hR hl hlo hlen
      exact lv_imul hx hb hd (k lr H locs hR hl hlo hlen)
    · cases hG
  case iand =>
    simp only [xm_G, xm_ii] at hG
    split at hG
    · simp only [xm_ok, Option.some.injEq, Prod.mk.injEq] at hG
      obtain ⟨rfl, rfl, rfl, rfl, rfl⟩ := hG
      intro lr H locs hR hl hlo hlen
      exact lv_iand hx hb hd (k lr H locs hR hl hlo hlen)
    · cases hG
  case ior =>
    simp only [xm_G, xm_ii] at hG
    split at hG
    · simp only [xm_ok, Option.some.injEq, Prod.mk.injEq] at hG
      obtain ⟨rfl, rfl, rfl, rfl, rfl⟩ := hG
      intro lr H locs hR hl hlo hlen
      exact lv_ior hx hb hd (k lr H locs hR hl hlo hlen)
    · cases hG
  case ishl =>
    simp only [xm_G, xm_ii] at hG
    split at hG
    · simp only [xm_ok, Option.some.injEq, Prod.mk.injEq] at hG
      obtain ⟨rfl, rfl, rfl, rfl, rfl⟩ := hG
      intro lr H locs hR hl hlo hlen
      exact lv_ishl hx hb hd (k lr H locs hR hl hlo hlen)
    · cases hG
  case ishr =>
    simp only [xm_G, xm_ii] at hG
    split at hG
    · simp only [xm_ok, Option.some.injEq, Prod.mk.injEq] at hG
      obtain ⟨rfl, rfl, rfl, rfl, rfl⟩ := hG
      intro lr H locs hR hl hlo hlen
      exact lv_ishr hx hb hd (k lr H locs hR hl hlo hlen)
    · cases hG
  case iushr =>
    simp only [xm_G, xm_ii] at hG
    split at hG
    · simp only [xm_ok, Option.some.injEq, Prod.mk.injEq] at hG
      obtain ⟨rfl, rfl, rfl, rfl, rfl⟩ := hG
      intro lr H locs hR hl hlo hlen
      exact lv_iushr hx hb hd rfl (k lr H locs hR hl hlo hlen)
    · cases hG
  case idiv =>
    simp only [xm_G, xm_id] at hG
    split at hG
    · simp only [Option.some.injEq, Prod.mk.injEq] at hG
      obtain ⟨rfl, rfl, rfl, rfl, rfl⟩ := hG
      intro lr H locs hR hl hlo hlen
      exact lv_idiv hx hb hd hφ (k lr H locs hR hl hlo hlen)
    · cases hG
  case irem =>
    simp only [xm_G, xm_id] at hG
    split at hG
    · simp only [Option.some.injEq, Prod.mk.injEq] at hG
      obtain ⟨rfl, rfl, rfl, rfl, rfl⟩ := hG
      intro lr H locs hR hl hlo hlen
      exact lv_irem hx hb hd hφ (k lr H locs hR hl hlo hlen)
    · cases hG
  case ineg =>
    simp only [xm_G, xm_i1] at hG
    split at hG
    · simp only [xm_ok, Option.some.injEq, Prod.mk.injEq] at hG
      obtain ⟨rfl, rfl, rfl, rfl, rfl⟩ := hG
      intro lr H locs hR hl hlo hlen
      exact lv_ineg hx hb hd (k lr H locs hR hl hlo hlen)
    · cases hG
  case i2b =>
    simp only [xm_G, xm_i1] at hG
    split at hG
    · simp only [xm_ok, Option.some.injEq, Prod.mk.injEq] at hG
      obtain ⟨rfl, rfl, rfl, rfl, rfl⟩ := hG
      intro lr H locs hR hl hlo hlen
      exact lv_i2b hx hb hd rfl (k lr H locs hR hl hlo hlen)
    · cases hG
  case i2c =>
    simp only [xm_G, xm_i1] at hG
    split at hG
    · simp only [xm_ok, Option.some.injEq, Prod.mk.injEq] at hG
      obtain ⟨rfl, rfl, rfl, rfl, rfl⟩ := hG
      intro lr H locs hR hl hlo hlen
      exact lv_i2c hx hb hd rfl (k lr H locs hR hl hlo hlen)
    · cases hG
  case i2l =>
    simp only [xm_G, xm_i1] at hG
    split at hG
    · simp only [xm_ok, Option.some.injEq, Prod.mk.injEq] at hG
      obtain ⟨rfl, rfl, rfl, rfl, rfl⟩ := hG
      intro lr H locs hR hl hlo hlen
      exact lv_i2l hx hb hd rfl (k lr H locs hR hl hlo hlen)
    · cases hG
  case i2d =>
    simp only [xm_G, xm_i1] at hG
    split at hG
    · simp only [xm_ok, Option.some.injEq, Prod.mk.injEq] at hG
      obtain ⟨rfl, rfl, rfl, rfl, rfl⟩ := hG
      intro lr H locs hR hl hlo hlen
      exact lv_i2d hx hb hd (k lr H locs hR hl hlo hlen)
    · cases hG
  case l2i =>
    simp only [xm_G, xm_ok] at hG
    split at hG
    · simp only [Option.some.injEq, Prod.mk.injEq] at hG
      obtain ⟨rfl, rfl, rfl, rfl, rfl⟩ := hG
      intro lr H locs hR hl hlo hlen
      exact lv_l2i hx hb hd rfl (k lr H locs hR hl hlo hlen)
    · cases hG
  case ladd =>
    simp only [xm_G, xm_ll] at hG
    split at hG
    · simp only [xm_ok, Option.some.injEq, Prod.mk.injEq] at hG
      obtain ⟨rfl, rfl, rfl, rfl, rfl⟩ := hG
      intro lr H locs hR hl hlo hlen
      exact lv_ladd hx hb hd (k lr H locs hR hl hlo hlen)
    · cases hG
  case lsub =>
    simp only [xm_G, xm_ll] at hG
    split at hG
    · simp only [xm_ok, Option.some.injEq, Prod.mk.injEq] at hG
      obtain ⟨rfl, rfl, rfl, rfl, rfl⟩ := hG
      intro lr H locs hR hl hlo hlen
      exact lv_lsub hx hb hd (k lr H locs hR hl hlo hlen)
    · cases hG
  case lmul =>
    simp only [xm_G, xm_ll] at hG
    split at hG
    · simp only [xm_ok, Option.some.injEq, Prod.mk.injEq] at hG
      obtain ⟨rfl, rfl, rfl, rfl, rfl⟩ := hG
      intro lr H locs hR hl hlo hlen
      exact lv_lmul hx hb hd (k lr H locs hR hl hlo hlen)
    · cases hG
  case ldiv =>
    simp only [xm_G, xm_ldd] at hG
    split at hG
    · simp only [Option.some.injEq, Prod.mk.injEq] at hG
      obtain ⟨rfl, rfl, rfl, rfl, rfl⟩ := hG
      intro lr H locs hR hl hlo hlen
      exact lv_ldiv hx hb hd hφ (k lr H locs hR hl hlo hlen)
    · cases hG
  case lrem =>
    simp only [xm_G, xm_ldd] at hG
    split at hG
    · simp only [Option.some.injEq, Prod.mk.injEq] at hG
      obtain ⟨rfl, rfl, rfl, rfl, rfl⟩ := hG
      intro lr H locs hR hl hlo hlen
      exact lv_lrem hx hb hd hφ (k lr H locs hR hl hlo hlen)
    · cases hG
  case dadd =>
    simp only [xm_G, xm_dd] at hG
    split at hG
    · simp only [Option.some.injEq, Prod.mk.injEq] at hG
      obtain ⟨rfl, rfl, rfl, rfl, rfl⟩ := hG
      intro lr H locs hR hl hlo hlen
      exact lv_dadd hx hb hd hφ (k lr H locs hR hl hlo hlen)
    · cases hG
  case ddiv =>
    simp only [xm_G, xm_dd] at hG
    split at hG
    · simp only [Option.some.injEq, Prod.mk.injEq] at hG
      obtain ⟨rfl, rfl, rfl, rfl, rfl⟩ := hG
      intro lr H locs hR hl hlo hlen
      exact lv_ddiv hx hb hd hφ (k lr H locs hR hl hlo hlen)
    · cases hG
  case lcmp =>
    simp only [xm_G, xm_ok] at hG
    split at hG
    · simp only [Option.some.injEq, Prod.mk.injEq] at hG
      obtain ⟨rfl, rfl, rfl, rfl, rfl⟩ := hG
      intro lr H locs hR hl hlo hlen
      exact W.lcmp hx hb hd (k lr H locs hR hl hlo hlen)
    · cases hG
  case dcmp op =>
    simp only [xm_G, xm_ok] at hG
    split at hG
    · simp only [Option.some.injEq, Prod.mk.injEq] at hG
      obtain ⟨rfl, rfl, rfl, rfl, rfl⟩ := hG
      intro lr H locs hR hl hlo hlen
      exact lv_dcmp hx hb hd (k lr H locs hR hl hlo hlen)
    · cases hG
  case dup =>
    simp only [xm_G] at hG
    split at hG
    · simp only [Option.some.injEq, Prod.mk.injEq] at hG
      obtain ⟨rfl, rfl, rfl, rfl, rfl⟩ := hG
      intro lr H locs hR hl hlo hlen
      exact lv_dup hx hb hd (by rw [xm_cv_cat]; exact hφ) (k lr H locs hR hl hlo hlen)
    · cases hG
  case pop =>
    simp only [xm_G] at hG
    split at hG
    · simp only [Option.some.injEq, Prod.mk.injEq] at hG
      obtain ⟨rfl, rfl, rfl, rfl, rfl⟩ := hG
      intro lr H locs hR hl hlo hlen
      exact lv_pop hx hb hd (by rw [xm_cv_cat]; exact hφ) (k lr H locs hR hl hlo hlen)
    · cases hG
  case dup_x1 =>
    simp only [xm_G] at hG
    split at hG
    · simp only [Option.some.injEq, Prod.mk.injEq] at hG
      obtain ⟨rfl, rfl, rfl, rfl, rfl⟩ := hG
      intro lr H locs hR hl hlo hlen
      exact lv_dup_x1 hx hb hd (by rw [xm_cv_cat]; exact hφ.1) (by rw [xm_cv_cat]; exact hφ.2) (k lr H locs hR hl hlo hlen)
    · cases hG
  case dup2 =>
    simp only [xm_G] at hG
    split at hG
    · simp only [Option.some.injEq, Prod.mk.injEq] at hG
      obtain ⟨rfl, rfl, rfl, rfl, rfl⟩ := hG
      intro lr H locs hR hl hlo hlen
      exact lv_dup2_11 hx hb hd (by rw [xm_cv_cat]; exact hφ.1) (by rw [xm_cv_cat]; exact hφ.2) (k lr H locs hR hl hlo hlen)
    · cases hG
  case goto off =>
    simp only [xm_G, xm_ok, Option.some.injEq, Prod.mk.injEq] at hG
    obtain ⟨rfl, rfl, rfl, rfl, rfl⟩ := hG
    intro lr H locs hR hl hlo hlen
    exact lv_goto hx hb hd hok (k lr H locs hR hl hlo hlen)
  case ifCond cc off =>
    simp only [xm_G] at hG
    split at hG
    · simp only [xm_ok, Option.some.injEq, Prod.mk.injEq] at hG
      obtain ⟨rfl, rfl, rfl, rfl, rfl⟩ := hG
      intro lr H locs hR hl hlo hlen
      cases cc
      case eq =>
        refine lv_if_eq hx hb hd hok (fun hp => ?_) (fun hp => ?_)
        · have k2 := k lr H locs hR hl hlo hlen
          simp only [xm_cb, hp, decide_true, xm_br] at k2
          exact k2
        · have k2 := k lr H locs hR hl hlo hlen
          simp only [xm_cb, hp, decide_false, xm_br] at k2
          exact k2
      case ne =>
        refine lv_if_ne hx hb hd hok (fun hp => ?_) (fun hp => ?_)
        · have k2 := k lr H locs hR hl hlo hlen
          simp only [xm_cb, hp, not_false_eq_true, decide_true, xm_br] at k2
          exact k2
        · have k2 := k lr H locs hR hl hlo hlen
          simp only [xm_cb, hp, not_true_eq_false, decide_false, xm_br] at k2
          exact k2
      case lt =>
        refine lv_if_lt hx hb hd hok (fun hp => ?_) (fun hp => ?_)
        · have k2 := k lr H locs hR hl hlo hlen
          simp only [xm_cb, hp, decide_true, xm_br] at k2
          exact k2
        · have k2 := k lr H locs hR hl hlo hlen
          simp only [xm_cb, hp, decide_false, xm_br] at k2
          exact k2
      case ge =>
        refine lv_if_ge hx hb hd hok (fun hp => ?_) (fun hp => ?_)
        · have k2 := k lr H locs hR hl hlo hlen
          simp only [xm_cb, hp, decide_true, xm_br] at k2
          exact k2
        · have k2 := k lr H locs hR hl hlo hlen
          simp only [xm_cb, hp, decide_false, xm_br] at k2
          exact k2
      case gt =>
        refine lv_if_gt hx hb hd hok (fun hp => ?_) (fun hp => ?_)
        · have k2 := k lr H locs hR hl hlo hlen
          simp only [xm_cb, hp, decide_true, xm_br] at k2
          exact k2
        · have k2 := k lr H locs hR hl hlo hlen
          simp only [xm_cb, hp, decide_false, xm_br] at k2
          exact k2
      case le =>
        refine lv_if_le hx hb hd hok (fun hp => ?_) (fun hp => ?_)
        · have k2 := k lr H locs hR hl hlo hlen
          simp only [xm_cb, hp, decide_true, xm_br] at k2
          exact k2
        · have k2 := k lr H locs hR hl hlo hlen
          simp only [xm_cb, hp, decide_false, xm_br] at k2
          exact k2
    · cases hG
  case if_icmp cc off =>
    simp only [xm_G] at hG
    split at hG
    · simp only [xm_ok, Option.some.injEq, Prod.mk.injEq] at hG
      obtain ⟨rfl, rfl, rfl, rfl, rfl⟩ := hG
      intro lr H locs hR hl hlo hlen
      cases cc
      case eq =>
        refine lv_icmp_eq hx hb hd hok (fun hp => ?_) (fun hp => ?_)
        · have k2 := k lr H locs hR hl hlo hlen
          simp only [xm_cb, hp, decide_true, xm_br] at k2
          exact k2
        · have k2 := k lr H locs hR hl hlo hlen
          simp only [xm_cb, hp, decide_false, xm_br] at k2
          exact k2
      case ne =>
        refine lv_icmp_ne hx hb hd hok (fun hp => ?_) (fun hp => ?_)
        · have k2 := k lr H locs hR hl hlo hlen
          simp only [xm_cb, hp, not_false_eq_true, decide_true, xm_br] at k2
          exact k2
        · have k2 := k lr H locs hR hl hlo hlen
          simp only [xm_cb, hp, not_true_eq_false, decide_false, xm_br] at k2
          exact k2
      case lt =>
        refine lv_icmp_lt hx hb hd hok (fun hp => ?_) (fun hp => ?_)
        · have k2 := k lr H locs hR hl hlo hlen
          simp only [xm_cb, hp, decide_true, xm_br] at k2
          exact k2
        · have k2 := k lr H locs hR hl hlo hlen
          simp only [xm_cb, hp, decide_false, xm_br] at k2
          exact k2
      case ge =>
        refine lv_icmp_ge hx hb hd hok (fun hp => ?_) (fun hp => ?_)
        · have k2 := k lr H locs hR hl hlo hlen
          simp only [xm_cb, hp, decide_true, xm_br] at k2
          exact k2
        · have k2 := k lr H locs hR hl hlo hlen
          simp only [xm_cb, hp, decide_false, xm_br] at k2
          exact k2
      case gt =>
        refine lv_icmp_gt hx hb hd hok (fun hp => ?_) (fun hp => ?_)
        · have k2 := k lr H locs hR hl hlo hlen
          simp only [xm_cb, hp, decide_true, xm_br] at k2
          exact k2
        · have k2 := k lr H locs hR hl hlo hlen
          simp only [xm_cb, hp, decide_false, xm_br] at k2
          exact k2
      case le =>
        refine lv_icmp_le hx hb hd hok (fun hp => ?_) (fun hp => ?_)
        · have k2 := k lr H locs hR hl hlo hlen
          simp only [xm_cb, hp, decide_true, xm_br] at k2
          exact k2
        · have k2 := k lr H locs hR hl hlo hlen
          simp only [xm_cb, hp, decide_false, xm_br] at k2
          exact k2
    · cases hG
  case ifnonnull off =>
    simp only [xm_G] at hG
    split at hG
    · simp only [xm_ok, Option.some.injEq, Prod.mk.injEq] at hG
      obtain ⟨rfl, rfl, rfl, rfl, rfl⟩ := hG
      intro lr H locs hR hl hlo hlen
      exact lv_ifnonnull hx hb hd hok (k lr H locs hR hl hlo hlen)
    · cases hG
  case tableswitch dd lo hi offs =>
    simp only [xm_G] at hG
    split at hG
    · rename_i x r
      simp only [xm_ok, Option.some.injEq, Prod.mk.injEq] at hG
      obtain ⟨rfl, hpc, rfl, rfl, rfl⟩ := hG
      obtain ⟨rfl, o2, o3, o4, o5⟩ := hok
      intro lr H locs hR hl hlo hlen
      have k2 := k lr H locs hR hl hlo hlen
      rw [← hpc] at k2
      dsimp only at o2 o3 o4 o5
      by_cases h0 : x < 0
      · rw [if_pos (Or.inl h0)] at k2
        exact lv_tableOut hx hb hd (Or.inl (by simpa using Int32.lt_iff_toInt_lt.mp h0)) o4 k2
      · obtain ⟨j, hj, rfl⟩ := nI_of h0
        rw [nI_clamp hj] at k2
        by_cases hge : pl.length ≤ j + 1
        · rw [if_pos (Or.inr hge)] at k2
          refine lv_tableOut hx hb hd (Or.inr ?_) o4 k2
          rw [nI_toInt hj]
          omega
        · rw [if_neg (fun q => q.elim h0 hge)] at k2
          refine lv_tableIn hx hb hd ?_ ?_ (off := offs.getD j 0) ?_ (o5 j (by omega)) k2
          · rw [nI_toInt hj]; omega
          · rw [nI_toInt hj]; omega
          · rw [nI_toInt hj]
            have hjo : j < offs.size := by omega
            have e9 : ((j : Int) - 0).toNat = j := by omega
            rw [e9]
            simp [Array.getD, hjo]
    · cases hG
  case getfield idx =>
    simp only [xm_G] at hG
    split at hG
    · simp only [Option.some.injEq, Prod.mk.injEq] at hG
      obtain ⟨rfl, rfl, rfl, rfl, rfl⟩ := hG
      intro lr H locs hR hl hlo hlen
      obtain ⟨q, ty, o1, o2, o3, o4, o5, o6⟩ := hok
      obtain ⟨cell, cf, kf, fi, f, g1, g3, g4, g5, g7⟩ := xm_objR hts hK hKc hR hφ o1 o2 o3
      refine W.getf hx hb hown (hts _ o6) g5 g7 g1 g3 g4 rfl rfl hd ?_
      have k2 := k lr H locs hR hl hlo hlen
      have e9 : xm_tc (xm_fty (xm_p0 pl 0) (xm_p0 pl 1)) = xm_p0 pl 2 := by unfold xm_fty; rw [o4]; exact o5
      rw [e9]
      exact k2
    · cases hG
  case putfield idx =>
    simp only [xm_G] at hG
    split at hG
    · rename_i v a r
      split at hG
      · rename_i ψ h1 hpf
        simp only [Option.some.injEq, Prod.mk.injEq] at hG
        obtain ⟨rfl, rfl, rfl, rfl, rfl⟩ := hG
        intro lr H locs hR hl hlo hlen
        obtain ⟨⟨q, ty, o1, o2, o3, o4, o5, o6⟩, o7⟩ := hok
        obtain ⟨p1, p2, p3⟩ := hφ
        obtain ⟨cell, cf, kf, fi, f, kC, g1, g2, g3, g4, g5, g6, g7, g8, g9, g10⟩ := xm_obj hts hK hR p2 p1 o1 o2 o3
        obtain ⟨ty', e1, hin, hnm2, hty, -⟩ := xO _ q o1 o2
        cases Option.some.inj (e1.symm.trans o4)
        have e9 : ∀ b, xm_fty (xm_p0 pl 0) b = ty b := fun b => by unfold xm_fty; rw [o4]
        obtain ⟨f1, f2, f3, f4, f5, f6⟩ := xm_pf_spec (ad := xm_ad H0.size ct) hpf p3 o5 (fun b => xm_tc (ty b)) o5
        have hlay := hts _ (hin _ (u_in_lay o3))
        unfold u_lay at hlay
        have fin : ∀ (H' : Heap), H'[xm_ad H0.size ct a]? = some (cell.setSlot f.slot (xm_cv (xm_ad H0.size ct) v)) → H'.size = H.size → (∀ q, q ≠ xm_ad H0.size ct a → H'[q]? = H[q]?) → W p l e R s m args below meth c H' (locs ++ [⟨xm_ad H0.size ct a, f.slot⟩]) (xm_n h - n0) (xm_sz h - z0) Z (F0 m (pc + 3) lr (r.map (xm_cv (xm_ad H0.size ct)))) := fun H' q1 q2 q3 => by
          rw [g6] at q1
          have hR' := hR.fld hts hK p1 o1 o2 o3 p2 f1 f2 f3 (fun b _ => by simp only [e9]; exact f4 b) g2 g3 g4 q1 q2 q3
          have k2 := k lr H' (locs ++ [⟨xm_ad H0.size ct a, f.slot⟩]) hR' hl (xm_locs hlo (xm_ad_ge p2)) hlen
          have e10 : xm_sz h1 = xm_sz h := by unfold xm_sz; rw [f1]; simp only [f2]
          rw [f1, e10] at k2
          exact k2
        rcases o7 q o1 with w1 | ⟨w1, w2, w3⟩
        · rw [if_neg (by rw [w1]; decide)] at hlay
          have h6 := u_store g8 g9 g10 hlay g5 (hty _ o3) f5 f6
          exact W.putK hx hb (f := f) ⟨hown, hts _ o6, ⟨_, _, _, g5⟩, g7⟩ (by rw [g2]; exact h6) g1 g3 (by rw [g6]; exact k2_hasslot (g4 _ o3)) rfl rfl hd fin
        · rw [if_pos w1] at hlay
          have h6 := u_fits g8 g9 g10 (Or.inr hlay) g5 (hty _ o3) f5 f6
          have hcf : m.cls = cf := by
            have z1 := xm_fcls hlay g5
            rw [w2, hown] at z1
            exact Option.some.inj z1
          exact W.putFinK hx hb hown (hts _ o6) g5 g7 hcf (hnm w3) (by rw [g2]; exact h6) g1 g3 (by rw [g6]; exact k2_hasslot (g4 _ o3)) rfl rfl hd fin
      · cases hG
    · cases hG
  case getstatic idx =>
    simp only [xm_G] at hG
    split at hG
    · rename_i h00
      simp only [xm_ok, Option.some.injEq, Prod.mk.injEq] at hG
      obtain ⟨rfl, rfl, rfl, rfl, rfl⟩ := hG
      intro lr H locs hR hl hlo hlen
      obtain ⟨C, n, d, o1, o2⟩ := hok h00
      have hZ : va_Z C n d (xm_cv (xm_ad H0.size ct) cv) (fun a => H0.size ≤ a) s s.heap := (hZL _ o1).kept (fun a ha _ => hold a ha)
      have hS : va_S (fun a => H0.size ≤ a) H0 H locs := ⟨hR.sz, fun q hq _ => hR.2.2.1 q hq, hlo⟩
      obtain ⟨cf, kf, fi, f, a, cell, h1, h2, h3, h4, h5, h6, h7, h8⟩ := hZ
      exact W.gets hx hb hown (hts _ o2) h1 h2 h3 h4 (by rw [hR.2.2.1 a (by omega), ← hold a (by omega)]; exact h5) (fun e => by rw [e] at h6; cases h6) h7 rfl hd (k lr H locs hR hl hlo hlen)
    · cases hG
  case arraylength =>
    simp only [xm_G] at hG
    split at hG
    · rename_i a r
      simp only [Option.some.injEq, Prod.mk.injEq] at hG
      obtain ⟨rfl, rfl, rfl, rfl, rfl⟩ := hG
      intro lr H locs hR hl hlo hlen
      obtain ⟨j, hj⟩ : ∃ j, (xm_k h a).1 = 100 + j := ⟨(xm_k h a).1 - 100, by omega⟩
      have hj9 : j < 9 := by omega
      obtain ⟨ty, hty⟩ : ∃ ty, xat[j]? = some ty := ⟨_, List.getElem?_eq_getElem hj9⟩
      obtain ⟨cell, r1, r2, r3, r4, r5, r6⟩ := xm_rowR hK hKc hR hj hty
      exact W.alen hx hb r1 r2 r5 rfl rfl hd (k lr H locs hR hl hlo hlen)
    · cases hG
  case iaload =>
    simp only [xm_G, xm_al] at hG
    split at hG
    · rename_i x a r
      simp only [Option.some.injEq, Prod.mk.injEq] at hG
      obtain ⟨rfl, rfl, rfl, rfl, rfl⟩ := hG
      intro lr H locs hR hl hlo hlen
      obtain ⟨cell, r1, r2, r3, r4, r5, r6⟩ := xm_rowR (j := 0) hK hKc hR hφ.1 rfl
      exact W.iald hx hb r1 r2 r3 (xm_innR hφ.2 r4) (r6 _ (xm_lt hφ.2)) rfl rfl hd (k lr H locs hR hl hlo hlen)
    · cases hG
  case caload =>
    simp only [xm_G, xm_al] at hG
    split at hG
    · rename_i x a r
      simp only [Option.some.injEq, Prod.mk.injEq] at hG
      obtain ⟨rfl, rfl, rfl, rfl, rfl⟩ := hG
      intro lr H locs hR hl hlo hlen
      obtain ⟨cell, r1, r2, r3, r4, r5, r6⟩ := xm_rowR (j := 3) hK hKc hR hφ.1 rfl
      exact W.cald hx hb r1 r2 r3 (xm_innR hφ.2 r4) (r6 _ (xm_lt hφ.2)) rfl rfl hd (k lr H locs hR hl hlo hlen)
    · cases hG
  case laload =>
    simp only [xm_G, xm_al] at hG
    split at hG
    · rename_i x a r
      simp only [Option.some.injEq, Prod.mk.injEq] at hG
      obtain ⟨rfl, rfl, rfl, rfl, rfl⟩ := hG
      intro lr H locs hR hl hlo hlen
      obtain ⟨cell, r1, r2, r3, r4, r5, r6⟩ := xm_rowR (j := 4) hK hKc hR hφ.1 rfl
      exact W.lald hx hb r1 r2 r3 (xm_innR hφ.2 r4) (r6 _ (xm_lt hφ.2)) rfl rfl hd (k lr H locs hR hl hlo hlen)
    · cases hG
  case daload =>
    simp only [xm_G, xm_al] at hG
    split at hG
    · rename_i x a r
      simp only [Option.some.injEq, Prod.mk.injEq] at hG
      obtain ⟨rfl, rfl, rfl, rfl, rfl⟩ := hG
      intro lr H locs hR hl hlo hlen
      obtain ⟨cell, r1, r2, r3, r4, r5, r6⟩ := xm_rowR (j := 5) hK hKc hR hφ.1 rfl
      exact W.dald hx hb r1 r2 r3 (xm_innR hφ.2 r4) (r6 _ (xm_lt hφ.2)) rfl rfl hd (k lr H locs hR hl hlo hlen)
    · cases hG
  case baload =>
    simp only [xm_G, xm_al] at hG
    split at hG
    · rename_i x a r
      simp only [Option.some.injEq, Prod.mk.injEq] at hG
      obtain ⟨rfl, rfl, rfl, rfl, rfl⟩ := hG
      intro lr H locs hR hl hlo hlen
      rcases hok with o | o
      · obtain ⟨cell, r1, r2, r3, r4, r5, r6⟩ := xm_rowR (j := 1) hK hKc hR (hφ.1.trans o) rfl
        exact W.zald hx hb r1 r2 r3 (xm_innR hφ.2 r4) (r6 _ (xm_lt hφ.2)) rfl rfl hd (k lr H locs hR hl hlo hlen)
      · obtain ⟨cell, r1, r2, r3, r4, r5, r6⟩ := xm_rowR (j := 2) hK hKc hR (hφ.1.trans o) rfl
        exact W.bald hx hb r1 r2 r3 (xm_innR hφ.2 r4) (r6 _ (xm_lt hφ.2)) rfl rfl hd (k lr H locs hR hl hlo hlen)
    · cases hG
  case aaload =>
    simp only [xm_G, xm_al] at hG
    split at hG
    · rename_i x a r
      simp only [Option.some.injEq, Prod.mk.injEq] at hG
      obtain ⟨rfl, rfl, rfl, rfl, rfl⟩ := hG
      intro lr H locs hR hl hlo hlen
      obtain ⟨j, C, o1, o2, o3⟩ := hok
      have hj9 : j < 9 := (List.getElem?_eq_some_iff.mp o3).1
      obtain ⟨cell, r1, r2, r3, r4, r5, r6⟩ := xm_rowR (j := j) hK hKc hR (hφ.1.trans o1) o3
      have e9 : xm_et (100 + j) = 6 := by unfold xm_et; rw [if_neg (by omega)]
      rw [e9] at r6
      exact W.aald (ty := .object C) hx hb r1 r2 rfl r3 (xm_innR hφ.2 r4) (r6 _ (xm_lt hφ.2)) rfl rfl hd (k lr H locs hR hl hlo hlen)
    · cases hG
  case iastore =>
    simp only [xm_G, xm_as] at hG
    split at hG
    · rename_i x jj a r
      simp only [Option.some.injEq, Prod.mk.injEq] at hG
      obtain ⟨rfl, rfl, rfl, rfl, rfl⟩ := hG
      intro lr H locs hR hl hlo hlen
      obtain ⟨p1, p2, p3⟩ := hφ
      have hr := xm_row (j := 0) hR p3 p1 (by decide)
      refine W.iast hx hb hr (xm_ar hK (j := 0) rfl _ _) (fun q => by cases q) (xm_inn p2 _ _) rfl rfl hd fun H' q1 q2 q3 => ?_
      exact k lr H' _ (hR.row p1 (by decide) p3 rfl (fun _ => rfl) (fun τ b m hb => xm_get_si hb) (fun b => xm_upI _ (by decide) b) q1 q2 q3) hl (xm_locs hlo (xm_ad_ge p3)) hlen
    · cases hG
  case castore =>
    simp only [xm_G, xm_as] at hG
    split at hG
    · rename_i x jj a r
      simp only [Option.some.injEq, Prod.mk.injEq] at hG
      obtain ⟨rfl, rfl, rfl, rfl, rfl⟩ := hG
      intro lr H locs hR hl hlo hlen
      obtain ⟨p1, p2, p3⟩ := hφ
      have hr := xm_row (j := 3) hR p3 p1 (by decide)
      refine W.cast hx hb hr (xm_ar hK (j := 3) rfl _ _) (fun q => by cases q) (xm_inn p2 _ _) rfl rfl hd fun H' q1 q2 q3 => ?_
      exact k lr H' _ (hR.row p1 (by decide) p3 rfl (fun _ => rfl) (fun τ b m hb => xm_get_si hb) (fun b => xm_upI _ (by decide) b) q1 q2 q3) hl (xm_locs hlo (xm_ad_ge p3)) hlen
    · cases hG
  case bastore =>
    simp only [xm_G] at hG
    split at hG
    · simp only [xm_as] at hG
      split at hG
      · rename_i x jj a r
        simp only [Option.some.injEq, Prod.mk.injEq] at hG
        obtain ⟨rfl, rfl, rfl, rfl, rfl⟩ := hG
        intro lr H locs hR hl hlo hlen
        obtain ⟨p1, p2, p3⟩ := hφ
        have hr := xm_row (j := 1) hR p3 p1 (by decide)
        refine W.zast hx hb hr (xm_ar hK (j := 1) rfl _ _) (fun q => by cases q) (xm_inn p2 _ _) rfl rfl hd fun H' q1 q2 q3 => ?_
        exact k lr H' _ (hR.row p1 (by decide) p3 rfl (fun _ => rfl) (fun τ b m hb => xm_get_si hb) (fun b => xm_upI _ (by decide) b) q1 q2 q3) hl (xm_locs hlo (xm_ad_ge p3)) hlen
      · cases hG
    · simp only [xm_as] at hG
      split at hG
      · rename_i x jj a r
        simp only [Option.some.injEq, Prod.mk.injEq] at hG
        obtain ⟨rfl, rfl, rfl, rfl, rfl⟩ := hG
        intro lr H locs hR hl hlo hlen
        obtain ⟨p1, p2, p3⟩ := hφ
        have hr := xm_row (j := 2) hR p3 p1 (by decide)
        refine W.bast hx hb hr (xm_ar hK (j := 2) rfl _ _) (fun q => by cases q) (xm_inn p2 _ _) rfl rfl hd fun H' q1 q2 q3 => ?_
        exact k lr H' _ (hR.row p1 (by decide) p3 rfl (fun _ => rfl) (fun τ b m hb => xm_get_si hb) (fun b => xm_upI _ (by decide) b) q1 q2 q3) hl (xm_locs hlo (xm_ad_ge p3)) hlen
      · cases hG
    · cases hG
  case lastore =>
    simp only [xm_G] at hG
    split at hG
    · rename_i x jj a r
      simp only [Option.some.injEq, Prod.mk.injEq] at hG
      obtain ⟨rfl, rfl, rfl, rfl, rfl⟩ := hG
      intro lr H locs hR hl hlo hlen
      obtain ⟨p1, p2, p3⟩ := hφ
      have hr := xm_row (j := 4) hR p3 p1 (by decide)
      refine W.last hx hb hr (xm_ar hK (j := 4) rfl _ _) (fun q => by cases q) (xm_inn p2 _ _) rfl rfl hd fun H' q1 q2 q3 => ?_
      exact k lr H' _ (hR.row p1 (by decide) p3 rfl (fun _ => rfl) (fun τ b m hb => xm_get_sl hb) (fun b => xm_upL b) q1 q2 q3) hl (xm_locs hlo (xm_ad_ge p3)) hlen
    · cases hG
  case dastore =>
    simp only [xm_G] at hG
    split at hG
    · rename_i x jj a r
      simp only [Option.some.injEq, Prod.mk.injEq] at hG
      obtain ⟨rfl, rfl, rfl, rfl, rfl⟩ := hG
      intro lr H locs hR hl hlo hlen
      obtain ⟨p1, p2, p3⟩ := hφ
      have hr := xm_row (j := 5) hR p3 p1 (by decide)
      refine W.dast hx hb hr (xm_ar hK (j := 5) rfl _ _) (fun q => by cases q) (xm_inn p2 _ _) rfl rfl hd fun H' q1 q2 q3 => ?_
      exact k lr H' _ (hR.row p1 (by decide) p3 rfl (fun _ => rfl) (fun τ b m hb => xm_get_sd hb) (fun b => xm_upD b) q1 q2 q3) hl (xm_locs hlo (xm_ad_ge p3)) hlen
    · cases hG
  case aastore =>
    simp only [xm_G] at hG
    split at hG
    · rename_i b x a r
      simp only [Option.some.injEq, Prod.mk.injEq] at hG
      obtain ⟨rfl, rfl, rfl, rfl, rfl⟩ := hG
      intro lr H locs hR hl hlo hlen
      obtain ⟨p1, p2, p3, p4, p5⟩ := hφ
      obtain ⟨j, C, q, o1, o2, o3, o4, o5, rfl⟩ := hok
      dsimp only at o1 o4 o5
      have hj9 : j < 9 := (List.getElem?_eq_some_iff.mp o3).1
      have hr := xm_row (j := j) hR p3 (p1.trans o1) (by omega)
      have e9 : xm_et (100 + j) = 6 := by unfold xm_et; rw [if_neg (by omega)]
      obtain ⟨cell, v1, v2, -⟩ := hR.cell (a := b) p5 (by rw [p4]; omega)
      obtain ⟨v3, v4, -⟩ := v2 (by rw [p4]; omega)
      rw [p4] at v3
      have hcls := (hK.1 _ q o4).2
      obtain ⟨kA, comp, k1, k2, k3, -⟩ := (hK.2 j _ (xtys_at o3)).2
      have hcomp : comp = D.1 (xm_p0 pl 1) := Option.some.inj (k3.symm.trans hcls.1)
      subst hcomp
      obtain ⟨kC, hkC, -⟩ := hcls.2
      refine W.aast hx hb hr (fun q h => by cases h) (fun h => by cases h) k1 k2 rfl hkC ⟨fun q => p2 (Or.inl q), by rw [arrV_size]; exact xm_lt p2⟩ v1 (fun q h => by rw [v4] at h; cases h) (by rw [v3]; exact hkC) (by rw [v3]; exact va_assign hcls) rfl rfl hd fun H' q1 q2 q3 => ?_
      exact k lr H' _ (hR.row (p1.trans o1) (by omega) p3 rfl (fun _ => rfl) (fun τ b m hb => xm_get_sr hb) (fun b => by rw [e9]; exact xm_upR b) q1 q2 q3) hl (xm_locs hlo (xm_ad_ge p3)) hlen
    · cases hG
  case newarray ay =>
    simp only [xm_G] at hG
    split at hG
    · rename_i n r
      simp only [Option.some.injEq, Prod.mk.injEq] at hG
      obtain ⟨rfl, rfl, rfl, rfl, rfl⟩ := hG
      intro lr H locs hR hl hlo hlen
      obtain ⟨j, o1, o2, o3, o4⟩ := hok
      have hnn : xm_n (xm_new h (xm_p0 pl 0, n.toNatClampNeg)) = xm_n h + 1 := rfl
      have hks : xm_ks (xm_p0 pl 0, n.toNatClampNeg) = n.toNatClampNeg := by unfold xm_ks; rw [if_neg (by dsimp only at o1 ⊢; omega)]
      rw [hnn] at hrc
      rw [xm_sz_new, hks] at hrs
      refine va_newaK hx hb (hts _ o4) rfl hd rfl hφ.1 rfl (Nat.le_trans (Nat.mul_le_mul hφ.2 (xm_cb8 ay)) (Nat.le_of_ble_eq_true rfl)) (by omega) (by omega) rfl fun H' cA q1 q2 q3 q4 q5 => ?_
      have hcA : cA = aC j := by
        have z1 := (hK.2 j _ (xtys_at o3)).2
        have z2 : s.vm.findClass ("[" ++ (newarray.typeOf ay).toString) = some (aC j) := by cases ay <;> exact z1
        exact Option.some.inj (q5.symm.trans z2)
      subst hcA
      have hR' := hR.push (κ := (xm_p0 pl 0, n.toNatClampNeg)) q2 q3 q1 (xm_fresh o1 (by omega) o3)
      have k2 := k lr H' locs hR' hl hlo hlen
      rw [hnn, xm_sz_new, hks] at k2
      have e1 : xm_n h + 1 - n0 = xm_n h - n0 + 1 := by omega
      have e2 : xm_sz h + n.toNatClampNeg - z0 = xm_sz h - z0 + n.toNatClampNeg := by omega
      rw [e1, e2] at k2
      rw [← hR.next]
      exact k2
    · cases hG
  case anewarray idx =>
    simp only [xm_G] at hG
    split at hG
    · rename_i n r
      simp only [Option.some.injEq, Prod.mk.injEq] at hG
      obtain ⟨rfl, rfl, rfl, rfl, rfl⟩ := hG
      intro lr H locs hR hl hlo hlen
      obtain ⟨j, C, o1, o2, o3, o4⟩ := hok
      have hj9 : j < 9 := (List.getElem?_eq_some_iff.mp o3).1
      have hnn : xm_n (xm_new h (xm_p0 pl 0, n.toNatClampNeg)) = xm_n h + 1 := rfl
      have hks : xm_ks (xm_p0 pl 0, n.toNatClampNeg) = n.toNatClampNeg := by unfold xm_ks; rw [if_neg (by dsimp only at o1 ⊢; omega)]
      rw [hnn] at hrc
      rw [xm_sz_new, hks] at hrs
      refine W.anew hx hb hown (hts _ o4) ((hAO j C o3).use) rfl hd rfl hφ.1 (Nat.le_trans (Nat.mul_le_mul_right 4 hφ.2) (Nat.le_of_ble_eq_true rfl)) (by omega) (by omega) fun cA kA comp q1 q2 q3 q4 => ?_
      have hcA : cA = aC j := by
        obtain ⟨_, _, _, _, _, z1⟩ := (hK.2 j _ (xtys_at o3)).2
        exact Option.some.inj (q1.symm.trans z1)
      subst hcA
      have hR' := hR.push (κ := (xm_p0 pl 0, n.toNatClampNeg)) (H1 := H.push { cls := aC j, slots := Array.replicate n.toNatClampNeg .null, vm := .none }) (by simp) (fun q hq => by rw [Array.getElem?_push, if_neg (Nat.ne_of_lt hq)]) (by simp; rfl) (by rw [arrV_new]; exact xm_fresh o1 (by omega) o3)
      have k2 := k lr _ locs hR' hl hlo hlen
      rw [hnn, xm_sz_new, hks] at k2
      have e1 : xm_n h + 1 - n0 = xm_n h - n0 + 1 := by omega
      have e2 : xm_sz h + n.toNatClampNeg - z0 = xm_sz h - z0 + n.toNatClampNeg := by omega
      rw [e1, e2] at k2
      rw [← hR.next]
      exact k2
    · cases hG
  case new idx =>
    simp only [xm_G] at hG
    split at hG
    · rename_i h00
      simp only [xm_ok, Option.some.injEq, Prod.mk.injEq] at hG
      obtain ⟨rfl, rfl, rfl, rfl, rfl⟩ := hG
      intro lr H locs hR hl hlo hlen
      obtain ⟨q, o1, o2, o3⟩ := hok h00
      dsimp only at o1 o2 o3
      obtain ⟨ty, e1, hin, hnm2, hty, o4, o5, o6⟩ := xO _ q o1 o2
      have hKn := hK.1 _ q o1
      have hnn : xm_n (xm_new h (xm_p0 pl 1, 0)) = xm_n h + 1 := rfl
      have hks : xm_ks (xm_p0 pl 1, 0) = xsl.getD (xm_p0 pl 1) 0 := by unfold xm_ks; rw [if_pos (by dsimp only; omega)]
      rw [hnn] at hrc
      rw [xm_sz_new, hks] at hrs
      refine W.newcK hx hb hown (hts _ o3) (hts _ o4) (hts _ o5) rfl hd (by omega) (by omega) hKn.2.1 rfl fun H' kC hkC q1 q2 q3 => ?_
      obtain ⟨cell, b1, b2, b3, b4⟩ := u_born ty hts hin hKn hkC q1 hty
      have hR' := hR.push (κ := (xm_p0 pl 1, 0)) q2 q3 b1 (xm_freshO o1 o2 e1 o6 b2 b3 b4)
      have k2 := k lr H' locs hR' hl hlo hlen
      rw [hnn, xm_sz_new, hks] at k2
      have e1 : xm_n h + 1 - n0 = xm_n h - n0 + 1 := by omega
      have e2 : xm_sz h + xsl.getD (xm_p0 pl 1) 0 - z0 = xm_sz h - z0 + xsl.getD (xm_p0 pl 1) 0 := by omega
      rw [e1, e2] at k2
      rw [← hR.next]
      exact k2
    · cases hG
end Sim
