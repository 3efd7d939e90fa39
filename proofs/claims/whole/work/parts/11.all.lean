/-! every run of the little machine is a contract -/
theorem xm_W_mo {C : xm_Cl} (hC : ∀ y as h o h', C y as h o h' → xm_mo h h') {M : xm_M} {Q : xm_O → xm_H → Prop} {hE : xm_H} (hQ : ∀ o h, Q o h → xm_mo h hE) {pc : Nat} {ls : xm_L} {st : List Value} {h : xm_H} (hw : xm_W C M Q pc ls st h) : xm_mo h hE := by
  refine hw (fun _ _ _ h => xm_mo h hE) ?_
  clear hw pc ls st h
  intro pc ls st h hF
  unfold xm_F at hF
  split at hF
  · unfold xm_F1 at hF
    split at hF
    · rename_i c2 hG
      exact (xm_G_mo hG).tr hF.2
    · have b1 : ∀ {y n : Nat} {ls : xm_L}, xm_inv C M y n pc ls st h (fun _ _ _ h => xm_mo h hE) Q → xm_mo h hE := fun q => by
        obtain ⟨-, -, o, h', q1, q2⟩ := q
        refine (hC _ _ _ _ _ q1).tr ?_
        unfold xm_back at q2
        split at q2
        · exact q2
        · split at q2
          · exact q2
          · exact hQ _ _ q2
      have b2 : ∀ {y n : Nat} {ls : xm_L}, xm_in1 C y n pc ls st h (fun _ _ _ h => xm_mo h hE) → xm_mo h hE := fun q => by
        obtain ⟨-, -, v, h', q1, q2⟩ := q
        exact (hC _ _ _ _ _ q1).tr q2
      unfold xm_X at hF
      split at hF
      · split at hF
        · exact b1 hF
        · exact b2 hF
        · exact b2 hF
        · split at hF
          · obtain ⟨-, -, -, -, -, -, -, -, -, -, k⟩ := hF
            exact (xm_mo.rf : xm_mo h h).tr k
          · exact hF.elim
        · split at hF
          · exact hF.2
          · exact hF.elim
        · split at hF
          · exact hF.2
          · exact hF.elim
        · exact hF.elim
      · split at hF
        · exact b1 hF.2
        · exact b2 hF.2
        · exact hF.elim
      · split at hF
        · exact b2 hF.2
        · exact b2 hF.2
        · exact b2 hF.2
        · split at hF
          · exact hF.2
          · exact hF.elim
        · exact hF.elim
      · split at hF
        · exact hQ _ _ hF.2
        · exact hF.elim
      · split at hF
        · exact hQ _ _ hF
        · exact hF.elim
      · split at hF
        · exact hQ _ _ hF
        · exact hQ _ _ hF
        · exact hF.elim
      · split at hF
        · exact hQ _ _ hF
        · exact hF.elim
      · split at hF
        · exact hF.elim
        · exact (xm_mo.nw _ _).tr (hQ _ _ hF.2)
      · exact hF .null (Or.inl rfl)
      · exact hF.elim
  · exact hF.elim
theorem xm_Rn_mo (X : List xm_M) : ∀ d y as h o h', xm_Rn X d y as h o h' → xm_mo h h' := by
  intro d
  induction d with
  | zero => intro y as h o h' hr; exact hr.elim
  | succ d ih =>
    intro y as h o h' hr
    obtain ⟨M, -, -, hw⟩ := hr
    exact xm_W_mo ih (hE := h') (fun o1 h1 q => by rw [q.2]; exact xm_mo.rf) hw
theorem xm_av_get {ad : Nat → Nat} : ∀ (as : List Value), (lg_sl (as.map (xm_cv ad))).length = (xm_av as).length ∧ ∀ (i : Nat) (v : Value), (xm_av as)[i]? = some (some v) → (lg_sl (as.map (xm_cv ad)))[i]? = some (Slot.val (xm_cv ad v)) := by
  intro as
  induction as with
  | nil => exact ⟨rfl, fun i v h => by simp [xm_av] at h⟩
  | cons a r ih =>
    have one : ∀ (w : Value), w.category = 1 → xm_av (w :: r) = some w :: xm_av r → (lg_sl ((w :: r).map (xm_cv ad))).length = (xm_av (w :: r)).length ∧ ∀ (i : Nat) (v : Value), (xm_av (w :: r))[i]? = some (some v) → (lg_sl ((w :: r).map (xm_cv ad)))[i]? = some (Slot.val (xm_cv ad v)) := fun w hw e => by
      have e2 : lg_sl ((w :: r).map (xm_cv ad)) = Slot.val (xm_cv ad w) :: lg_sl (r.map (xm_cv ad)) := by
        have hc : ¬ (xm_cv ad w).category = 2 := by rw [xm_cv_cat]; omega
        simp [lg_sl, hc]
      rw [e, e2]
      refine ⟨by simp [ih.1], fun i v h => ?_⟩
      cases i with
      | zero => simp at h ⊢; rw [h]
      | succ i => simp at h ⊢; exact ih.2 i v h
    have two : ∀ (w : Value), w.category = 2 → xm_av (w :: r) = some w :: none :: xm_av r → (lg_sl ((w :: r).map (xm_cv ad))).length = (xm_av (w :: r)).length ∧ ∀ (i : Nat) (v : Value), (xm_av (w :: r))[i]? = some (some v) → (lg_sl ((w :: r).map (xm_cv ad)))[i]? = some (Slot.val (xm_cv ad v)) := fun w hw e => by
      have e2 : lg_sl ((w :: r).map (xm_cv ad)) = Slot.val (xm_cv ad w) :: Slot.second :: lg_sl (r.map (xm_cv ad)) := by
        have hc : (xm_cv ad w).category = 2 := by rw [xm_cv_cat]; exact hw
        simp [lg_sl, hc]
      rw [e, e2]
      refine ⟨by simp [ih.1], fun i v h => ?_⟩
      match i with
      | 0 => simp at h ⊢; rw [h]
      | 1 => simp at h
      | i + 2 => simp at h ⊢; exact ih.2 i v h
    cases a with
    | long x => exact two _ rfl rfl
    | double x => exact two _ rfl rfl
    | int x => exact one _ rfl rfl
    | float x => exact one _ rfl rfl
    | null => exact one _ rfl rfl
    | ref x => exact one _ rfl rfl
    | retAddr x => exact one _ rfl rfl
theorem xm_entry {ad : Nat → Nat} (as : List Value) {n : Nat} (h : (xm_av as).length ≤ n) : xm_lh ad ((lg_sl (as.map (xm_cv ad)) ++ List.replicate (n - (lg_sl (as.map (xm_cv ad))).length) Slot.unset).toArray) (xm_en n as) := by
  obtain ⟨e1, e2⟩ := xm_av_get (ad := ad) as
  have hl := lv_entry (as.map (xm_cv ad)) (n := n) (by rw [e1]; exact h)
  refine ⟨by rw [hl.1]; simp [xm_en]; omega, hl.2.1, fun i v hv => ?_⟩
  unfold xm_en at hv
  by_cases hi : i < (xm_av as).length
  · rw [List.getElem?_append_left hi] at hv
    have := e2 i v hv
    simp only [List.getElem?_toArray]
    rw [List.getElem?_append_left (by rw [e1]; exact hi)]
    exact this
  · rw [List.getElem?_append_right (by omega)] at hv
    rw [List.getElem?_replicate] at hv
    split at hv <;> simp at hv
theorem xm_isN_on {w : Cond} (h : xm_isN w = true) : w.onTables = true := by
  cases w <;> first | rfl | (simp [xm_isN] at h)
section All
variable {SL : xm_SL} {ZL : xm_ZL} {QL : xm_QL} {D : va_G} {aC : Nat → ClassId} {ct : xm_K} {H0 : Heap} {X : List xm_M} {l : Launch}
set_option maxHeartbeats 4000000 in
set_option maxRecDepth 100000 in
theorem xm_all (hst : l.stackTraces = false) (hok : ∀ M ∈ X, xm_okM SL ZL QL X M) : ∀ d, xm_IH SL ZL QL D aC ct H0 X l d := by
  intro d
  induction d with
  | zero => intro y as h o h' hr; exact hr.elim
  | succ d ih =>
    intro y as h o h' hr
    refine ⟨xm_Rn_mo X _ y as h o h' hr, fun M hM => ?_⟩
    obtain ⟨M0, hM0, hal, hw⟩ := hr
    cases Option.some.inj (hM0.symm.trans hM)
    have okM := hok M (List.mem_of_getElem? hM)
    have hmo := xm_Rn_mo X (d + 1) y as h o h' ⟨M, hM, hal, hw⟩
    -- what holds in the body
    have fx : ∀ {p : Program} {e : Env} {s : State} {m : MethodId} {args : Array Value} {below : List Frame} {meth : Method} {c : Code} {s₁ : State} {rm : Room}, BodyLoose p l M.2.2.1 (headSpec (xm_ws M) rm) M.2.2.2.1 M.2.2.2.2.1 M.2.2.2.2.2 e s m args below meth c s₁ → c.maxLocals = M.2.2.2.2.1 → xm_Pc SL ZL QL D aC ct H0 as h args s → xm_Fx SL ZL QL D aC ct H0 p s m args meth c M := fun {p e s m args below meth c s₁ rm} B hml hv => by
      have hts := atoms_spec (ws := xm_ws M) B.pre
      exact ⟨B.exec, B.bytes, hml, findClass_of_methodNamed B.named, fun w hw => hts w (List.mem_cons_of_mem _ hw), hv.2.2, B.notSynchronized, (fun h9 => (name_of_methodNamed B.named B.method).1.trans h9), hv.2.1.2.2.1, hv.2.1.sz⟩
    have start : ∀ {p : Program} {e : Env} {R : Room} {s : State} {m : MethodId} {args : Array Value} {below : List Frame} {meth : Method} {c : Code} {Z : State → Prop}, xm_Pc SL ZL QL D aC ct H0 as h args s → (xm_mo h h → xm_To D aC ct H0 p l e R s m args below meth c M (xm_n h) (xm_sz h) Z 0 (xm_en M.2.2.2.2.1 as) [] h) → W p l e R s m args below meth c s.heap [] 0 0 Z (entryFrame m args M.2.2.2.2.1) := fun {p e R s m args below meth c Z} hv k => by
      obtain ⟨rfl, hR, -⟩ := hv
      have k2 := k xm_mo.rf _ s.heap [] hR (xm_entry as hal) (fun l hl => nomatch hl) (by simp [xm_en]; omega)
      rw [Nat.sub_self, Nat.sub_self] at k2
      rw [lg_entry_eq]
      exact k2
    refine ⟨fun v hv => ?_, fun x hx hM1 => ?_⟩
    · subst hv
      have body : ∀ (p : Program) (e : Env) (s : State) (m : MethodId) (args : Array Value) (below : List Frame) (meth : Method) (c : Code) (s₁ : State), BodyLoose p l M.2.2.1 (headSpec (xm_ws M) (xm_rm (d + 1) (xm_n h' - xm_n h) (xm_sz h' - xm_sz h))) M.2.2.2.1 M.2.2.2.2.1 M.2.2.2.2.2 e s m args below meth c s₁ → c.maxLocals = M.2.2.2.2.1 → c.exceptionTable.toList = tableOf (xm_hh M.2.1) → xm_Pc SL ZL QL D aC ct H0 as h args s →
          W p l e (headSpec (xm_ws M) (xm_rm (d + 1) (xm_n h' - xm_n h) (xm_sz h' - xm_sz h))).room s m args below meth c s.heap [] 0 0 (MQ below (xm_Qc D aC ct H0 v h') args s (xm_n h' - xm_n h) (xm_sz h' - xm_sz h) (fun q => H0.size ≤ q)) (entryFrame m args M.2.2.2.2.1) := by
        intro p e s m args below meth c s₁ B hml htab hv
        have Fx := fx B hml hv
        have hr := B.returns
        have hlocks := B.notSynchronized
        refine start hv ?_
        refine (xm_body (h0 := h) (hE := h') ih Fx okM (fun _ => htab) (by show d + 9 ≤ d + 1 + 8; omega) (by show _ ≤ 200 + 64 * (d + 1); omega) (fun o1 h1 q => by rw [q.2]; exact xm_mo.rf) (Nat.le_refl _) (Nat.le_refl _) ?_ ?_ ?_ hw).2
        · intro v1 h1 H locs lr pc i hq hR hlo hd hcase
          obtain ⟨q1, rfl⟩ := hq
          cases Sum.inl.inj q1
          have hQ : ∀ t : State, t.heap = H → s.WarmedH t.vm → xm_Qc D aC ct H0 v h1 args s (.returned (v.map (xm_cv (xm_ad H0.size ct)))) t := fun t ht _ => ⟨rfl, by rw [ht]; exact hR⟩
          rcases hcase with ⟨rfl, x, ty, rfl, t1, t2⟩ | ⟨rfl, x, rfl, t1⟩ | ⟨rfl, t1, rt, t2, t3⟩ | ⟨rfl, rfl, t1⟩
          · exact W.zret B.exec B.bytes (hr.trans t1) t2 hQ hlo hd
          · exact W.dret B.exec B.bytes (hr.trans t1) hQ hlo hd
          · rcases t1 with rfl | ⟨x, rfl⟩
            · exact W.aret B.exec B.bytes (hr.trans t2) t3 (Or.inl rfl) hQ hlo hd
            · exact W.aret B.exec B.bytes (hr.trans t2) t3 (Or.inr ⟨_, rfl⟩) hQ hlo hd
          · exact W.vret B.exec B.bytes (hr.trans t1) hQ hlo hd
        · intro x h1 H locs lr pc rest E ce hq
          cases hq.1
        · intro ik mk pl cv pc ls st h1 H locs lr _ _ _ _ hq
          cases hq.1
      cases hM1 : M.2.1 with
      | nil =>
        have ecw : xm_cw M = Cond.code M.2.2.1 M.2.2.2.1 M.2.2.2.2.1 M.2.2.2.2.2 := by unfold xm_cw; rw [hM1]
        refine Met.ofW (cc := M.2.2.2.1) (maxL := M.2.2.2.2.1) (ret := M.2.2.2.2.2) (ws' := xgd) okM.2.2 (by unfold xm_ws; rw [ecw]) ?_
        intro p e s m args below meth c s₁ B hml hv
        refine body p e s m args below meth c s₁ B hml ?_ hv
        obtain ⟨meth9, c9, h1, h2, -, -, -, -, h7, -⟩ := Cond.code_spec B.named (atoms_spec (ws := xm_ws M) B.pre _ (by rw [← ecw]; exact List.mem_cons_self))
        cases Option.some.inj (h1.symm.trans B.method)
        cases Option.some.inj (h2.symm.trans (Stand.of_body B).code)
        rw [Array.isEmpty_iff.mp h7, hM1]
        rfl
      | cons x0 r0 =>
        have ecw : xm_cw M = Cond.codeWith M.2.2.1 M.2.2.2.1 M.2.2.2.2.1 M.2.2.2.2.2 (xm_hh M.2.1) := by unfold xm_cw; rw [hM1]
        refine va_MetW (cc := M.2.2.2.1) (maxL := M.2.2.2.2.1) (ret := M.2.2.2.2.2) (hh := xm_hh M.2.1) (ws' := xgd) okM.2.2 (by unfold xm_ws; rw [ecw]) ?_
        intro p e s m args below meth c s₁ B hml hv
        exact body p e s m args below meth c s₁ B hml (vx_table (x := M.2.2.1) B (atoms_spec (ws := xm_ws M) B.pre _ (by rw [← ecw]; exact List.mem_cons_self))) hv
    · subst hx
      have ecw : xm_cw M = Cond.code M.2.2.1 M.2.2.2.1 M.2.2.2.2.1 M.2.2.2.2.2 := by unfold xm_cw; rw [hM1]
      refine vx_ofW (cc := M.2.2.2.1) (maxL := M.2.2.2.2.1) (ret := M.2.2.2.2.2) (ws' := xgd) okM.2.2 (by unfold xm_ws; rw [ecw]) ?_
      intro p e s m args below meth c s₁ B hml hemp hv
      have Fx := fx B hml hv
      obtain ⟨hX1, hX2, hX3, hown, hts, hKU, hlk, hnm, hold, hszs⟩ := id Fx
      obtain ⟨hK, hSL, hZL, hU1, hU2, hAO, hNw, hNc, hQL, hKc⟩ := id hKU
      have htab : c.exceptionTable.toList = tableOf (xm_hh M.2.1) := by
        rw [hM1]
        exact List.eq_nil_iff_forall_not_mem.mpr hemp
      refine start hv ?_
      refine (xm_body (h0 := h) (hE := h') ih Fx okM (fun _ => htab) (by show d + 9 ≤ d + 1 + 8; omega) (by show _ ≤ 200 + 64 * (d + 1); omega) (fun o1 h1 q => by rw [q.2]; exact xm_mo.rf) (Nat.le_refl _) (Nat.le_refl _) ?_ ?_ ?_ hw).2
      · intro v1 h1 H locs lr pc i hq
        cases hq.1
      · intro x1 h1 H locs lr pc rest E ce hq hnone hR hlo q3 q4 q5 q6 q7
        obtain ⟨q1, rfl⟩ := hq
        cases Sum.inr.inj q1
        exact vx_out (fun x hx => (hemp x hx).elim) hlk q5 q6 q7 (fun t ht _ => ⟨q3, q4, rfl, by rw [ht]; exact hR⟩) hlo (Nat.le_refl _) (Nat.le_refl _)
      · intro ik mk pl cv pc ls st h1 H locs lr o2 k0 hd hcat hq hR hsz hlo hn0 hz0
        obtain ⟨q1, q2⟩ := hq
        cases Sum.inr.inj q1
        obtain ⟨cls, text, i, is, ic, o3, o4, o5, o6, o7, o8, o9, o10, o11, o12, o13⟩ := o2 k0
        dsimp only at o4 o5 o6
        have hS : va_S (fun a => H0.size ≤ a) s.heap H locs := ⟨by have := hv.2.1.1; have := hR.1; omega, fun q _ hq2 => by rw [hR.2.2.1 q (Nat.not_le.mp hq2), hold q (Nat.not_le.mp hq2)], hlo⟩
        have hks : xm_ks (xm_p0 pl 1, 0) = 6 := by
          rcases (show xm_p0 pl 1 = 14 ∨ xm_p0 pl 1 = 15 ∨ xm_p0 pl 1 = 16 by omega) with z | z | z <;> rw [z] <;> rfl
        have hn9 : xm_n h' = xm_n h1 + 1 := by rw [← q2]; rfl
        have hs9 : xm_sz h' = xm_sz h1 + 6 := by rw [← q2, xm_sz_new, hks]
        have f1 : ∀ w ∈ vx_atS M.2.2.1.cls ic cls ["java/lang/RuntimeException", "java/lang/Exception"], w.before args s = true := fun w hw => by
          rcases (o11 w hw).1 with g | g
          · exact hts w g
          · exact (hNw w g).use (xm_isN_on (List.mem_filter.mp g).2)
        have f2 : ∀ w ∈ Cond.classLink M.2.2.1.cls ik cls :: Cond.initialized cls :: vx_atS M.2.2.1.cls ic cls ["java/lang/RuntimeException", "java/lang/Exception"], vx_ot w = true := fun w hw => by
          rcases List.mem_cons.mp hw with rfl | hw
          · rfl
          · rcases List.mem_cons.mp hw with rfl | hw
            · rfl
            · exact (o11 w hw).2
        have f3 : ∀ t : State, s.vm.Alike t.vm → t.heap.size = H.size + 1 → (∀ q : Nat, q < H.size → t.heap[q]? = H[q]?) → (∃ ce : Cell, t.heap[H.size]? = some ce ∧ ce.vm = .none ∧ s.vm.findClass cls = some ce.cls) → xm_XC D aC ct H0 (xm_p0 pl 1, xm_n h1) h' cls H.size s t := by
          intro t _ ht1 ht2 ⟨ce, c1, c2, c3⟩
          refine ⟨o4, o5, hR.next.symm, ?_⟩
          rw [← q2]
          refine hR.push ht1 ht2 c1 ⟨fun _ => ?_, fun q => ?_⟩
          · have hk9 : xm_k (xm_new h1 (xm_p0 pl 1, 0)) (xm_n h1) = (xm_p0 pl 1, 0) := by simp [xm_k, xm_new, xm_n]
            rw [hk9]
            dsimp only
            obtain ⟨q9, g1, g2, g3⟩ : ∃ q9, xcl[xm_p0 pl 1]? = some q9 ∧ q9.1 = cls ∧ xm_fN (xm_p0 pl 1) = 0 := by
              rcases (show xm_p0 pl 1 = 14 ∨ xm_p0 pl 1 = 15 ∨ xm_p0 pl 1 = 16 by omega) with z | z | z <;> rw [z] at o4 ⊢ <;> exact ⟨_, rfl, Option.some.inj o4, rfl⟩
            have g4 := (hK.1 _ q9 g1).2.1
            rw [g2] at g4
            exact ⟨Option.some.inj (c3.symm.trans g4), c2, fun k hk => by rw [g3] at hk; omega⟩
          · have hk9 : xm_k (xm_new h1 (xm_p0 pl 1, 0)) (xm_n h1) = (xm_p0 pl 1, 0) := by simp [xm_k, xm_new, xm_n]
            rw [hk9] at q
            dsimp only at q
            omega
        rcases o13 with o13 | o13
        · exact vx_throwS (names := ["java/lang/RuntimeException", "java/lang/Exception"]) (A := fun a => H0.size ≤ a) hX1 hX2 hst hown o10 (by decide) (hts _ o8) (hts _ o9) (hSL _ o7) f1 f2 (hU1.kept (fun a ha _ => hold a ha)) (hU2.kept (fun a ha _ => hold a ha)) hS hsz hd o12 o13.1 o13.2.1 o13.2.2 (fun x hx => (hemp x hx).elim) (by show 2 + 3 < d + 1 + 8; omega) (by rw [xm_cats]; show _ + (13 * (2 + 1) + 43) ≤ 200 + 64 * (d + 1); omega) (by show _ ≤ xm_n h' - xm_n h; omega) (by show _ ≤ xm_sz h' - xm_sz h; omega) hlk f3 hlo (by omega) (by omega)
        · exact vx_throwSW (names := ["java/lang/RuntimeException", "java/lang/Exception"]) (A := fun a => H0.size ≤ a) hX1 hX2 hst hown o10 (by decide) (hts _ o8) (hts _ o9) (hSL _ o7) f1 f2 (hU1.kept (fun a ha _ => hold a ha)) (hU2.kept (fun a ha _ => hold a ha)) hS hsz hd o12 o13.1 o13.2.1 o13.2.2 (fun x hx => (hemp x hx).elim) (by show 2 + 3 < d + 1 + 8; omega) (by rw [xm_cats]; show _ + (13 * (2 + 1) + 43) ≤ 200 + 64 * (d + 1); omega) (by show _ ≤ xm_n h' - xm_n h; omega) (by show _ ≤ xm_sz h' - xm_sz h; omega) hlk f3 hlo (by omega) (by omega)
end All
