/-! a method's body -/
theorem xm_hd_spec {t : List (Nat × Nat × Nat × Nat × Nat)} {pc e p : Nat} (h : xm_hd t pc e = some p) : ∃ pre y suf, t = pre ++ y :: suf ∧ (∀ z ∈ pre, ¬ (xm_cov z pc = true ∧ z.2.2.2.2 = e)) ∧ xm_cov y pc = true ∧ y.2.2.2.2 = e ∧ y.2.2.1 = p := by
  induction t with
  | nil => cases h
  | cons x r ih =>
    unfold xm_hd at h
    split at h
    · rename_i hc
      exact ⟨[], x, r, rfl, fun z hz => (nomatch hz), hc.1, hc.2, Option.some.inj h⟩
    · rename_i hc
      obtain ⟨pre, y, suf, h1, h2, h3⟩ := ih h
      refine ⟨x :: pre, y, suf, by rw [h1]; rfl, fun z hz => ?_, h3⟩
      rcases List.mem_cons.mp hz with rfl | q
      · exact hc
      · exact h2 z q
theorem xm_cats {ad : Nat → Nat} (l : List Value) : ((l.map (xm_cv ad)).map fun v => v.category) = l.map fun v => v.category := by
  rw [List.map_map]
  exact List.map_congr_left fun v _ => xm_cv_cat ad v
theorem xm_tl {ad : Nat → Nat} (v : Option Value) (st : List Value) : (v.map (xm_cv ad)).toList ++ st.map (xm_cv ad) = (v.toList ++ st).map (xm_cv ad) := by cases v <;> rfl
theorem xm_args {ad : Nat → Nat} (st : List Value) (n : Nat) : st.map (xm_cv ad) = (((st.take n).reverse).map (xm_cv ad)).reverse ++ (st.drop n).map (xm_cv ad) := by
  rw [← List.map_reverse, List.reverse_reverse, ← List.map_append, List.take_append_drop]
theorem xm_recv {st : List Value} {n a : Nat} (h : st[n]? = some (.ref a)) : (st.take (n + 1)).reverse = .ref a :: (st.take n).reverse ∧ st = st.take n ++ .ref a :: st.drop (n + 1) := by
  obtain ⟨hl, hv⟩ := List.getElem?_eq_some_iff.mp h
  have e1 : st.take (n + 1) = st.take n ++ [.ref a] := by rw [List.take_succ, h]; rfl
  refine ⟨by rw [e1, List.reverse_append]; rfl, ?_⟩
  conv => lhs; rw [← List.take_append_drop (n + 1) st, e1, List.append_assoc]
  rfl
theorem xm_argsR {ad : Nat → Nat} {st : List Value} {n a : Nat} (h : st[n]? = some (.ref a)) : st.map (xm_cv ad) = (((st.take n).reverse).map (xm_cv ad)).reverse ++ .ref (ad a) :: (st.drop (n + 1)).map (xm_cv ad) := by
  conv => lhs; rw [(xm_recv h).2]
  rw [List.map_append, ← List.map_reverse, List.reverse_reverse]
  rfl
section Body
variable {SL : xm_SL} {ZL : xm_ZL} {QL : xm_QL} {D : va_G} {aC : Nat → ClassId} {ct : xm_K} {H0 : Heap} {X : List xm_M}
variable {p : Program} {l : Launch} {e : Env} {R : Room} {s : State} {m : MethodId} {args : Array Value} {below : List Frame} {meth : Method} {c : Code} {M : xm_M} {Z : State → Prop}
theorem xm_blind {as : List Value} {h : xm_H} : FrameBlind (xm_Pc SL ZL QL D aC ct H0 as h) := fun _ U g mk q => ⟨q.1, q.2.1, xm_KU.warm (s := U) (U := U.calling g mk _) (State.WarmedH.refl U) q.2.2⟩
theorem xm_aft {H : Heap} {locs : List Loc} {cells slots mc ms pc : Nat} {lr : Array Slot} {st0 rest : List Value} {v : Option Value} {h' : xm_H} {a : Array Value}
    (hr : va_Run p l e R s m args below meth c H locs cells slots mc ms (F0 m pc lr st0) rest (xm_Qc D aC ct H0 v h' a) (fun q => H0.size ≤ q)) (hlo : ∀ l ∈ locs, H0.size ≤ l.base)
    (kk : ∀ (H' : Heap) (locs' : List Loc), xm_R D aC ct H0 h' H' → (∀ l ∈ locs', H0.size ≤ l.base) → W p l e R s m args below meth c H' locs' (cells + mc) (slots + ms) Z (F0 m (pc + 3) lr ((v.map (xm_cv (xm_ad H0.size ct))).toList ++ rest))) : W p l e R s m args below meth c H locs cells slots Z (F0 m pc lr st0) := by
  intro T hT X
  obtain ⟨v1, st₀, t, T', L, h0, X', hL, e1, e2, ⟨hv, hRt⟩, st⟩ := hr T hT X
  have hv1 : v1 = v.map (xm_cv (xm_ad H0.size ct)) := Outcome.returned.inj hv
  subst hv1
  obtain ⟨t2, a1, b1⟩ := kk T'.heap (locs ++ L) (by rw [e1]; exact hRt) (fun z hz => (List.mem_append.mp hz).elim (hlo z) (hL z)) T' rfl X'
  exact ⟨t2, st t2 a1, b1⟩
theorem xm_aftX {H : Heap} {locs : List Loc} {cells slots mc ms pc : Nat} {lr : Array Slot} {st0 rest : List Value} {x : Nat × Nat} {h' : xm_H}
    (hr : vx_Run p l e R s m args below meth c H locs cells slots mc ms (F0 m pc lr st0) rest (fun _ _ _ => False) (xm_XC D aC ct H0 x h') (fun q => H0.size ≤ q)) (hlo : ∀ l ∈ locs, H0.size ≤ l.base)
    (kk : ∀ (H' : Heap) (locs' : List Loc) (E : String) (ce : Cell), xm_R D aC ct H0 h' H' → (∀ l ∈ locs', H0.size ≤ l.base) → xec[x.1 - 14]? = some E → 14 ≤ x.1 → H'[xm_ad H0.size ct x.2]? = some ce → ce.vm = .none → s.vm.findClass E = some ce.cls → vx_W p l e R s m args below meth c H' locs' (cells + mc) (slots + ms) Z (F0 m pc lr rest) (xm_ad H0.size ct x.2)) : W p l e R s m args below meth c H locs cells slots Z (F0 m pc lr st0) := by
  intro T hT X
  rcases hr T hT X with ⟨v, st₀, t, T', L, -, -, -, -, -, hq, -⟩ | ⟨q, st₀, t, T', L, E, ce, h0, X', hL, e1, e2, ⟨x1, x2, x3, x4⟩, hce, hcv, hcl, st⟩
  · exact hq.elim
  · subst x3
    obtain ⟨t2, a1, b1⟩ := kk T'.heap (locs ++ L) E ce (by rw [e1]; exact x4) (fun z hz => (List.mem_append.mp hz).elim (hlo z) (hL z)) x1 x2 (by rw [e1]; exact hce) hcv hcl T' rfl X'
    exact ⟨t2, st.trans a1, b1⟩
theorem xm_objr (hK : va_K D xcl (xtys aC) s) (hKc : xm_Kc ct H0 s) {h : xm_H} {H : Heap} (hR : xm_R D aC ct H0 h H) {a t : Nat} (hk : (xm_k h a).1 = t) {q : vw_C} (hq : xcl[t]? = some q) (ht : t < 14) : ∃ cell : Cell, H[xm_ad H0.size ct a]? = some cell ∧ cell.vm.isStatics = false ∧ s.vm.findClass q.1 = some cell.cls := by
  by_cases haK : xK ≤ a
  · obtain ⟨cell, v1, v2, -⟩ := hR.cell (a := a) haK (by omega)
    obtain ⟨v3, v4, -⟩ := v2 (by omega)
    refine ⟨cell, v1, by rw [v4]; rfl, ?_⟩
    rw [v3, hk]
    exact (hK.1 t q hq).2.1
  · have hlt : a < xK := Nat.not_le.mp haK
    obtain ⟨c1, c2⟩ := hR.2.2.2.1 a hlt
    rw [c1] at hk
    obtain ⟨q', e1, ⟨cell, f1, f2, f3, f4⟩, -⟩ := (hKc a hlt (by omega)).1 (by omega)
    rw [hk] at e1
    cases Option.some.inj (e1.symm.trans hq)
    have had : xm_ad H0.size ct a = ct.1 a := by unfold xm_ad; rw [if_pos hlt]
    exact ⟨cell, by rw [had, hR.2.2.1 _ (Nat.not_le.mp f4)]; exact f1, f2, f3⟩
/-- rows of ints are copied -/
theorem xm_copy {H : Heap} {locs : List Loc} {cells slots pc : Nat} {ls : Array Slot} {rest : List Value} {cc : ByteArray} (hexec : p.tables.exec = Jvm.exec) (hb : c.code = cc) (hml : c.maxLocals = ls.size) {own : String} {index : Nat} (hown : s.vm.findClass own = some m.cls) (hlink : (Cond.methodLink own index arraycopyName).before args s = true) (hnat : (Cond.native arraycopyName).before args s = true) (hstat : (Cond.static arraycopyName).before args s = true) (hini : (Cond.initialized "java/lang/System").before args s = true)
    {a a0 : Nat} {c1 : ClassId} {n0 n1 : Nat} {f g : Nat → Int32} {ty : FieldType} {scr : Cell} (hc0 : H[a0]? = some scr) (hun : scr.vm ≠ .unknown) (hsn : n0 ≤ scr.slots.size) (hsr : ∀ i, i < n0 → scr.slots[i]? = some (.int (f i))) (hc1 : H[a]? = some (vp_cell c1 (n1, .inl g))) (ht0 : s.isArrayOf scr ty) (ht1 : s.isArrayOf (vp_cell c1 (n1, .inl g)) ty) (hprim : refKind ty = false)
    {sp dp n : Int32} (h1 : ¬ sp < 0) (h2 : ¬ dp < 0) (h3 : ¬ n < 0) (h4 : sp.toNatClampNeg + n.toNatClampNeg ≤ n0) (h5 : dp.toNatClampNeg + n.toNatClampNeg ≤ n1) (hfit : ∀ i, i < n.toNatClampNeg → fits ty (.int (f (sp.toNatClampNeg + i))) = true)
    (hframes : 1 ≤ R.frames) (hlocals : (rest.map fun v => v.category).sum + (nativeFrameWords "java/lang/System" "arraycopy" 5 + 11) ≤ R.locals) (hdg : decode cc pc = .ok (.invokestatic index, 3)) {B : Nat} (haB : B ≤ a) (hlo : ∀ l ∈ locs, B ≤ l.base)
    (kk : ∀ (H1 : Heap) (locs1 : List Loc), H1[a]? = some (vp_cell c1 (n1, .inl (va_cpy f g sp.toNatClampNeg dp.toNatClampNeg n.toNatClampNeg))) → H1.size = H.size → (∀ q, q ≠ a → H1[q]? = H[q]?) → (∀ l ∈ locs1, B ≤ l.base) → W p l e R s m args below meth c H1 locs1 cells slots Z (F0 m (pc + 3) ls rest)) : W p l e R s m args below meth c H locs cells slots Z (F0 m pc ls (.int n :: .int dp :: .ref a :: .int sp :: .ref a0 :: rest)) := by
  have nn : ∀ z : Int32, ¬ z < 0 → z.toInt = (z.toNatClampNeg : Int) := by
    intro z hz
    have hz0 : (0 : Int) ≤ z.toInt := by
      have := Int32.not_lt.mp hz
      simpa using Int32.le_iff_toInt_le.mp this
    show z.toInt = ((z.toInt.toNat : Nat) : Int)
    omega
  intro T hT X
  obtain ⟨hs6, k0, hk0, cm0, hkk0⟩ := ht0
  obtain ⟨-, k1, hk1, cm1, hkk1⟩ := ht1
  obtain ⟨vm', X', step⟩ := X.arraycopy hexec hown hlink hnat hstat hini (src := a0) (dst := a) (cs := scr) (cd := vp_cell c1 (n1, .inl g)) (srcPos := sp) (destPos := dp) (n := n) (by rw [hT]; exact hc0) (by rw [hT]; exact hc1)
    hs6 (fun _ h => by cases h) hun (fun h => by cases h) hk0 hk1 hkk0 hkk1 (by simp [hprim]) h1 h2 h3
    (by rw [nn sp h1, nn n h3]; omega)
    (by rw [nn dp h2, nn n h3]; show ¬ _ > ((arrV c1 n1 (fun j => .int (g j))).slots.size : Int); rw [arrV_size]; omega)
    (fun vm₁ _ i hi => by
      have e : scr.slots.getD (sp.toNatClampNeg + i) .null = .int (f (sp.toNatClampNeg + i)) := by
        rw [Array.getD_eq_getD_getElem?, hsr _ (by omega)]
        rfl
      refine ⟨?_, ?_⟩
      · rw [e]
        exact hfit i hi
      · rw [e]
        exact trivial)
    (g := F0 m pc ls (.int n :: .int dp :: .ref a :: .int sp :: .ref a0 :: rest)) rfl (by rw [hml]) (rest := rest) rfl (by rw [hb]; exact hdg) hframes (by show 2 * 0 + _ + _ ≤ _; omega)
  have e1 : copied scr (vp_cell c1 (n1, .inl g)) sp dp n = vp_cell c1 (n1, .inl (va_cpy f g sp.toNatClampNeg dp.toNatClampNeg n.toNatClampNeg)) := va_copiedX (fun z => .int z) scr c1 f g hsr h4
  rw [e1] at X' step
  have hl : a < H.size := (Array.getElem?_eq_some_iff.mp hc1).1
  have hheap : ((T.setVm vm').setCell a (vp_cell c1 (n1, .inl (va_cpy f g sp.toNatClampNeg dp.toNatClampNeg n.toNatClampNeg)))).heap = H.setIfInBounds a (vp_cell c1 (n1, .inl (va_cpy f g sp.toNatClampNeg dp.toNatClampNeg n.toNatClampNeg))) := by rw [← hT]; rfl
  have oq : ∀ q : Nat, q ≠ a → (H.setIfInBounds a (vp_cell c1 (n1, .inl (va_cpy f g sp.toNatClampNeg dp.toNatClampNeg n.toNatClampNeg))))[q]? = H[q]? := fun q hq => by simp [Array.getElem?_setIfInBounds, Ne.symm hq]
  obtain ⟨t, a1, b1⟩ := kk _ _ (show (H.setIfInBounds a _)[a]? = some _ by simp [Array.getElem?_setIfInBounds, hl]) (by simp) oq (fun q hq => by
      rcases List.mem_append.mp hq with h | h
      · exact hlo q h
      · obtain ⟨z, -, hz⟩ := List.mem_map.mp h
        rw [← hz]
        exact haB) _ hheap X'
  exact ⟨t, step t a1, b1⟩
/-- an exception that comes out of a call -/
theorem xm_thr (hown : s.vm.findClass M.2.2.1.cls = some m.cls) (hts : ∀ w ∈ xgd, w.before args s = true) (hNw : ∀ w ∈ xnw, va_Nw w s) (hNc : ∀ a ∈ xec, ∀ b ∈ xec, a ≠ b → va_Nc a b s) (htab : c.exceptionTable.toList = tableOf (xm_hh M.2.1))
    (hok : ∀ x ∈ M.2.1, 14 ≤ x.2.2.2.2 ∧ x.2.2.2.1 ≠ 0 ∧ ∃ nm, xec[x.2.2.2.2 - 14]? = some nm ∧ Cond.classLink M.2.2.1.cls x.2.2.2.1 nm ∈ xgd ∧ Cond.castable nm nm ∈ xnw)
    {H : Heap} {locs : List Loc} {cells slots pc pp : Nat} {lr : Array Slot} {rest : List Value} {x : Nat × Nat} {E : String} {ce : Cell} {q : Addr} (hx1 : xec[x.1 - 14]? = some E) (hx2 : 14 ≤ x.1) (hp : xm_hd M.2.1 pc x.1 = some pp) (hcell : H[q]? = some ce) (hv : ce.vm = .none) (hcl : s.vm.findClass E = some ce.cls)
    (kk : W p l e R s m args below meth c H locs cells slots Z (F0 m pp lr [.ref q])) : vx_W p l e R s m args below meth c H locs cells slots Z (F0 m pc lr rest) q := by
  obtain ⟨pre, y, suf, h1, h2, h3, h4, h5⟩ := xm_hd_spec hp
  have hE : E ∈ xec := List.mem_of_getElem? hx1
  have ety : ∀ z : Nat × Nat × Nat × Nat × Nat, covers (⟨z.1, z.2.1, z.2.2.1, z.2.2.2.1⟩ : ExceptionTableEntry) pc = xm_cov z pc := fun z => rfl
  obtain ⟨y1, y2, nm, y3, y4, y5⟩ := hok y (by rw [h1]; exact List.mem_append_right _ List.mem_cons_self)
  have hnm : nm = E := by
    rw [h4] at y3
    exact Option.some.inj (y3.symm.trans hx1)
  subst hnm
  refine vx_catch (name := nm) (E := nm) hown (tableOf (xm_hh pre)) ⟨y.1, y.2.1, y.2.2.1, y.2.2.2.1⟩ (tableOf (xm_hh suf)) ?_ ?_ ?_ y2 (hts _ y4) ((hNw _ y5).use rfl) hcell hv hcl ?_
  · rw [htab, h1]
    simp [tableOf, xm_hh]
  · intro z hz
    obtain ⟨z1, hz1, rfl⟩ := List.mem_map.mp hz
    obtain ⟨z2, hz2, rfl⟩ := List.mem_map.mp hz1
    have hh := h2 z2 hz2
    obtain ⟨w1, w2, nm2, w3, w4, w5⟩ := hok z2 (by rw [h1]; exact List.mem_append_left _ hz2)
    by_cases hc : xm_cov z2 pc = true
    · refine Or.inr ⟨w2, nm2, hts _ w4, hNc _ hE _ (List.mem_of_getElem? w3) fun he => hh ⟨hc, ?_⟩⟩
      subst he
      have i1 := (List.getElem?_eq_some_iff.mp w3).1
      have i2 := (List.getElem?_eq_some_iff.mp hx1).1
      have key : ∀ i : Nat, i < 3 → ∀ j : Nat, j < 3 → xec[i]? = xec[j]? → i = j := by decide +kernel
      have := key _ i1 _ i2 (w3.trans hx1.symm)
      omega
    · exact Or.inl (by rw [ety z2]; simpa using hc)
  · rw [ety y]; exact h3
  · rw [h5]; exact kk
end Body
