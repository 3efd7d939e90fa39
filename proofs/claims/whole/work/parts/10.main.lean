/-! a body of the little machine is one of the real machine -/
section Main
variable {SL : xm_SL} {ZL : xm_ZL} {QL : xm_QL} {D : va_G} {aC : Nat → ClassId} {ct : xm_K} {H0 : Heap} {X : List xm_M}
variable {p : Program} {l : Launch} {e : Env} {R : Room} {s : State} {m : MethodId} {args : Array Value} {below : List Frame} {meth : Method} {c : Code} {M : xm_M} {Z : State → Prop}
/-- how a body may end: by a return -/
def xm_eR (D : va_G) (aC : Nat → ClassId) (ct : xm_K) (H0 : Heap) (p : Program) (l : Launch) (e : Env) (R : Room) (s : State) (m : MethodId) (args : Array Value) (below : List Frame) (meth : Method) (c : Code) (M : xm_M) (n0 z0 : Nat) (Z : State → Prop) (Qf : xm_O → xm_H → Prop) : Prop :=
  ∀ (v : Option Value) (h : xm_H) (H : Heap) (locs : List Loc) (lr : Array Slot) (pc : Nat) (i : Instr), Qf (.inl v) h → xm_R D aC ct H0 h H → (∀ l ∈ locs, H0.size ≤ l.base) → decode M.2.2.2.1 pc = .ok (i, 1) →
    ((i = .ireturn ∧ ∃ x ty, v = some (.int x) ∧ M.2.2.2.2.2 = some ty ∧ narrow ty (.int x) = .int x) ∨ (i = .dreturn ∧ ∃ x, v = some (.double x) ∧ M.2.2.2.2.2 = some .double) ∨ (i = .areturn ∧ (v = some .null ∨ ∃ x, v = some (.ref x)) ∧ ∃ rt, M.2.2.2.2.2 = some rt ∧ ((∃ n, rt = .object n) ∨ ∃ t, rt = .array t)) ∨ (i = .return_ ∧ v = none ∧ M.2.2.2.2.2 = none)) →
    W p l e R s m args below meth c H locs (xm_n h - n0) (xm_sz h - z0) Z (F0 m pc lr (v.toList.map (xm_cv (xm_ad H0.size ct))))
/-- ... by an exception that a callee threw -/
def xm_eX (D : va_G) (aC : Nat → ClassId) (ct : xm_K) (H0 : Heap) (p : Program) (l : Launch) (e : Env) (R : Room) (s : State) (m : MethodId) (args : Array Value) (below : List Frame) (meth : Method) (c : Code) (M : xm_M) (n0 z0 : Nat) (Z : State → Prop) (Qf : xm_O → xm_H → Prop) : Prop :=
  ∀ (x : Nat × Nat) (h : xm_H) (H : Heap) (locs : List Loc) (lr : Array Slot) (pc : Nat) (rest : List Value) (E : String) (ce : Cell), Qf (.inr x) h → xm_hd M.2.1 pc x.1 = none → xm_R D aC ct H0 h H → (∀ l ∈ locs, H0.size ≤ l.base) → xec[x.1 - 14]? = some E → 14 ≤ x.1 → H[xm_ad H0.size ct x.2]? = some ce → ce.vm = .none → s.vm.findClass E = some ce.cls →
    vx_W p l e R s m args below meth c H locs (xm_n h - n0) (xm_sz h - z0) Z (F0 m pc lr rest) (xm_ad H0.size ct x.2)
/-- ... by a throw of its own -/
def xm_eT (SL : xm_SL) (QL : xm_QL) (X : List xm_M) (D : va_G) (aC : Nat → ClassId) (ct : xm_K) (H0 : Heap) (p : Program) (l : Launch) (e : Env) (R : Room) (s : State) (m : MethodId) (args : Array Value) (below : List Frame) (meth : Method) (c : Code) (M : xm_M) (n0 z0 : Nat) (Z : State → Prop) (Qf : xm_O → xm_H → Prop) : Prop :=
  ∀ (ik : Nat) (mk : Option (List Bool)) (pl : List Nat) (cv : Value) (pc : Nat) (ls : xm_L) (st : List Value) (h : xm_H) (H : Heap) (locs : List Loc) (lr : Array Slot), xm_okX SL QL X M pc (.new ik, mk, pl, cv) → xm_p0 pl 0 ≠ 0 → decode M.2.2.2.1 pc = .ok (.new ik, 3) → (st.map fun v => v.category).sum ≤ 8 → Qf (.inr (xm_p0 pl 1, xm_n h)) (xm_new h (xm_p0 pl 1, 0)) → xm_R D aC ct H0 h H → lr.size = c.maxLocals → (∀ l ∈ locs, H0.size ≤ l.base) → n0 ≤ xm_n h → z0 ≤ xm_sz h →
    W p l e R s m args below meth c H locs (xm_n h - n0) (xm_sz h - z0) Z (F0 m pc lr (st.map (xm_cv (xm_ad H0.size ct))))
set_option maxHeartbeats 4000000 in
set_option maxRecDepth 100000 in
theorem xm_body {d : Nat} (hIH : xm_IH SL ZL QL D aC ct H0 X l d) (Fx : xm_Fx SL ZL QL D aC ct H0 p s m args meth c M) (hok : xm_okM SL ZL QL X M) (htab : M.2.1 ≠ [] → c.exceptionTable.toList = tableOf (xm_hh M.2.1)) (hfr : d + 9 ≤ R.frames) (hlc : 264 + 64 * d ≤ R.locals)
    {Qf : xm_O → xm_H → Prop} {h0 hE : xm_H} (hQE : ∀ o h, Qf o h → xm_mo h hE) (hrc : xm_n hE - xm_n h0 ≤ R.cells) (hrs : xm_sz hE - xm_sz h0 ≤ R.slots)
    (eR : xm_eR D aC ct H0 p l e R s m args below meth c M (xm_n h0) (xm_sz h0) Z Qf) (eX : xm_eX D aC ct H0 p l e R s m args below meth c M (xm_n h0) (xm_sz h0) Z Qf) (eT : xm_eT SL QL X D aC ct H0 p l e R s m args below meth c M (xm_n h0) (xm_sz h0) Z Qf)
    {pc : Nat} {ls : xm_L} {st : List Value} {h : xm_H} (hw : xm_W (xm_Rn X d) M Qf pc ls st h) :
    xm_mo h hE ∧ (xm_mo h0 h → xm_To D aC ct H0 p l e R s m args below meth c M (xm_n h0) (xm_sz h0) Z pc ls st h) := by
  refine hw (fun pc ls st h => xm_mo h hE ∧ (xm_mo h0 h → xm_To D aC ct H0 p l e R s m args below meth c M (xm_n h0) (xm_sz h0) Z pc ls st h)) ?_
  clear hw pc ls st h
  intro pc ls st h hF
  unfold xm_F at hF
  split at hF
  · rename_i en hat
    obtain ⟨hd, ok1, ok2, okm⟩ := hok.1 pc en hat
    obtain ⟨i, mk, pl, cv⟩ := en
    dsimp only at hd okm hF
    have main : xm_mo h hE ∧ (xm_mo h0 h → xm_To D aC ct H0 p l e R s m args below meth c M (xm_n h0) (xm_sz h0) Z pc (xm_mk mk ls) st h) := by
      generalize xm_mk mk ls = ls at hF ⊢
      unfold xm_F1 at hF
      split at hF
      · rename_i c2 hG
        obtain ⟨φ, pc', ls', st', h'⟩ := c2
        obtain ⟨hφ, hmo, hto⟩ := hF
        dsimp only at hφ hmo hto
        have m1 : xm_mo h h' := xm_G_mo hG
        exact ⟨m1.tr hmo, fun hm => xm_simG Fx hd ok1 hG hφ hm.1 hm.2 (by have := hmo.1; omega) (by have := hmo.2; omega) (hto (hm.tr m1))⟩
      · rename_i hGn
        obtain ⟨hx, hb, hml, hown, hts, hKU, hlk, hnm, hold, hszs⟩ := id Fx
        obtain ⟨hK, hSL, hZL, hU1, hU2, hAO, hNw, hNc, hQL, hKc⟩ := id hKU
        have cnt : ∀ {a b c0 : Nat}, c0 ≤ a → a ≤ b → a - c0 + (b - a) = b - c0 := fun h1 h2 => by omega
        have pS : ∀ (st : List Value) (n : Nat) {h : xm_H} {H : Heap}, xm_R D aC ct H0 h H → PreS s H (xm_Pc SL ZL QL D aC ct H0 ((st.take n).reverse) h) (((st.take n).reverse).map (xm_cv (xm_ad H0.size ct))) := fun st n h H hR => ⟨xm_blind, fun U hU hW => ⟨rfl, by rw [hU]; exact hR, hKU.warm hW⟩⟩
        have cB : ∀ {N : xm_M} {y n : Nat} {mc ms : Nat}, xm_cal X y n N → N.2.1 = [] → (((xm_rm d mc ms).cells = mc ∧ (xm_rm d mc ms).slots = ms ∧ (xm_rm d mc ms).frames + 1 ≤ R.frames ∧ 8 + (N.2.2.2.2.1 + 11) + (xm_rm d mc ms).locals ≤ R.locals ∧ (∀ w ∈ xm_ws N, ∀ (a' : Array Value) (U : State), s.WarmedH U.vm → w.before a' U = true) ∧ Cond.code N.2.2.1 N.2.2.2.1 N.2.2.2.2.1 N.2.2.2.2.2 ∈ xm_ws N) ∧
            (Cond.code N.2.2.1 N.2.2.2.1 N.2.2.2.2.1 N.2.2.2.2.2).before args s = true ∧ (Cond.initialized N.2.2.1.cls).before args s = true ∧ (N.2.2.1.cls ≠ "java/lang/invoke/MethodHandle" ∧ N.2.2.1.cls ≠ "java/lang/invoke/VarHandle") ∧ (∀ sig, parseMethodDescriptor N.2.2.1.desc = some sig → n = sig.parameters.length)) := by
          intro N y n mc ms hc hN
          obtain ⟨c1, c2, c3, c4, c5, c6⟩ := hc
          have ecw : xm_cw N = Cond.code N.2.2.1 N.2.2.2.1 N.2.2.2.2.1 N.2.2.2.2.2 := by unfold xm_cw; rw [hN]
          refine ⟨⟨rfl, rfl, by show d + 8 + 1 ≤ _; omega, by show _ + (200 + 64 * d) ≤ _; omega, xm_goods hts c2, by rw [← ecw]; exact List.mem_cons_self⟩, by rw [← ecw]; exact hts _ c2, hts _ c3, c4, fun sig hsig => ?_⟩
          rw [hsig] at c5
          exact (Option.some.inj c5).symm
        have cW : ∀ {N : xm_M} {y n idx : Nat} {x0 : Nat × Nat × Nat × Nat × Nat} {r0 : List (Nat × Nat × Nat × Nat × Nat)} {mc ms : Nat}, xm_cal X y n N → N.2.1 = x0 :: r0 → Cond.methodLink M.2.2.1.cls idx N.2.2.1 ∈ xgd → Cond.static N.2.2.1 ∈ xgd → vx_CSW R s args M.2.2.1.cls idx N.2.2.1 N.2.2.2.1 N.2.2.2.2.1 N.2.2.2.2.2 (xm_hh N.2.1) (xm_ws N) (xm_rm d mc ms) mc ms n := by
          intro N y n idx x0 r0 mc ms hc hN k1 k2
          obtain ⟨c1, c2, c3, c4, c5, c6⟩ := hc
          have ecw : xm_cw N = Cond.codeWith N.2.2.1 N.2.2.2.1 N.2.2.2.2.1 N.2.2.2.2.2 (xm_hh N.2.1) := by unfold xm_cw; rw [hN]
          refine ⟨⟨rfl, rfl, by show d + 8 + 1 ≤ _; omega, by show _ + (200 + 64 * d) ≤ _; omega, xm_goods hts c2, by rw [← ecw]; exact List.mem_cons_self⟩, by rw [← ecw]; exact hts _ c2, hts _ c3, c4, fun sig hsig => ?_, hts _ k1, hts _ k2⟩
          rw [hsig] at c5
          exact (Option.some.inj c5).symm
        have pV : ∀ {st : List Value} {n t a : Nat} {q : vw_C} {h : xm_H} {H : Heap}, xm_R D aC ct H0 h H → st[n]? = some (.ref a) → (xm_k h a).1 = t → xcl[t]? = some q → t < 14 → PreV s H q.1 (xm_ad H0.size ct a) (xm_Pc SL ZL QL D aC ct H0 ((st.take (n + 1)).reverse) h) (((st.take n).reverse).map (xm_cv (xm_ad H0.size ct))) := fun hR ha hk hq ht => ⟨xm_blind, xm_objr hK hKc hR hk hq ht, fun U hU hW => ⟨by rw [(xm_recv ha).1]; rfl, by rw [hU]; exact hR, hKU.warm hW⟩⟩
        have pI : ∀ {st : List Value} {n a : Nat} {h : xm_H} {H : Heap}, xm_R D aC ct H0 h H → st[n]? = some (.ref a) → PreS s H (xm_Pc SL ZL QL D aC ct H0 ((st.take (n + 1)).reverse) h) (.ref (xm_ad H0.size ct a) :: ((st.take n).reverse).map (xm_cv (xm_ad H0.size ct))) := fun hR ha => ⟨xm_blind, fun U hU hW => ⟨by rw [(xm_recv ha).1]; rfl, by rw [hU]; exact hR, hKU.warm hW⟩⟩
        have hfin : ∀ {pc' : Nat} {ls' : xm_L} {st' : List Value} {h' : xm_H} {lr : Array Slot} {H' : Heap} {locs' : List Loc}, xm_mo h0 h → xm_mo h h' → (xm_mo h' hE ∧ (xm_mo h0 h' → xm_To D aC ct H0 p l e R s m args below meth c M (xm_n h0) (xm_sz h0) Z pc' ls' st' h')) → xm_R D aC ct H0 h' H' → xm_lh (xm_ad H0.size ct) lr ls' → (∀ l ∈ locs', H0.size ≤ l.base) → ls'.length = M.2.2.2.2.1 →
            W p l e R s m args below meth c H' locs' (xm_n h - xm_n h0 + (xm_n h' - xm_n h)) (xm_sz h - xm_sz h0 + (xm_sz h' - xm_sz h)) Z (F0 m pc' lr (st'.map (xm_cv (xm_ad H0.size ct)))) := fun hm m1 hk hR hl hlo hlen => by
          rw [cnt hm.1 m1.1, cnt hm.2 m1.2]
          exact hk.2 (hm.tr m1) _ _ _ hR hl hlo hlen
        have rom : ∀ {h' : xm_H}, xm_mo h0 h → xm_mo h h' → xm_mo h' hE → xm_n h - xm_n h0 + (xm_n h' - xm_n h) ≤ R.cells ∧ xm_sz h - xm_sz h0 + (xm_sz h' - xm_sz h) ≤ R.slots := fun hm m1 m2 => by
          rw [cnt hm.1 m1.1, cnt hm.2 m1.2]
          have := m2.1
          have := m2.2
          omega
        cases i
        all_goals (try (exact (hF : False).elim))
        case invokestatic idx =>
          simp only [xm_X] at hF
          simp only [xm_okX] at ok2
          split at hF
          · rename_i k0
            simp only [k0] at ok2
            obtain ⟨N, c1, c2, c3, c4⟩ := ok2
            obtain ⟨hn, hcat, o, h', hC, hbk⟩ := hF
            obtain ⟨m1, hcon⟩ := hIH _ _ _ _ _ hC
            cases o with
            | inl v =>
              have B := cB (mc := xm_n h' - xm_n h) (ms := xm_sz h' - xm_sz h) c1 c2
              refine ⟨m1.tr hbk.1, fun hm lr H locs hR hl hlo hlen => ?_⟩
              refine xm_aft (va_runS (Ts := xgd) ⟨hx, hb, hml, hown, hts⟩ ((hcon N c1.1).1 v rfl) ⟨⟨B.1.1, B.1.2.1, B.1.2.2.1, B.1.2.2.2.1, B.1.2.2.2.2.1, B.1.2.2.2.2.2, B.2.1, B.2.2.1, B.2.2.2.1, B.2.2.2.2, hts _ c3⟩, hts _ c4⟩ (pS st _ hR) rfl (by simp; omega) (by rw [← hlen]; exact hl.1) (xm_args st _) (lv_room (by rw [xm_cats]; exact hcat)) hd (rom hm m1 hbk.1)) hlo (fun H' locs' hR' hlo' => ?_)
              rw [xm_tl]
              exact hfin hm m1 hbk hR' hl hlo' hlen
            | inr x =>
              have B := cB (mc := xm_n h' - xm_n h) (ms := xm_sz h' - xm_sz h) c1 c2
              have thr : xm_mo h0 h → ∀ (lr : Array Slot) (H : Heap) (locs : List Loc), xm_R D aC ct H0 h H → xm_lh (xm_ad H0.size ct) lr ls → (∀ l ∈ locs, H0.size ≤ l.base) → ls.length = M.2.2.2.2.1 → xm_mo h' hE → (∀ (H' : Heap) (locs' : List Loc) (E : String) (ce : Cell), xm_R D aC ct H0 h' H' → (∀ l ∈ locs', H0.size ≤ l.base) → xec[x.1 - 14]? = some E → 14 ≤ x.1 → H'[xm_ad H0.size ct x.2]? = some ce → ce.vm = .none → s.vm.findClass E = some ce.cls → vx_W p l e R s m args below meth c H' locs' (xm_n h - xm_n h0 + (xm_n h' - xm_n h)) (xm_sz h - xm_sz h0 + (xm_sz h' - xm_sz h)) Z (F0 m pc lr ((st.drop (xm_p0 pl 2)).map (xm_cv (xm_ad H0.size ct)))) (xm_ad H0.size ct x.2)) → W p l e R s m args below meth c H locs (xm_n h - xm_n h0) (xm_sz h - xm_sz h0) Z (F0 m pc lr (st.map (xm_cv (xm_ad H0.size ct)))) := fun hm lr H locs hR hl hlo hlen m2 kk =>
                xm_aftX (vx_runS (Ts := xgd) ⟨hx, hb, hml, hown, hts⟩ ((hcon N c1.1).2 x rfl c2) ⟨⟨B.1.1, B.1.2.1, B.1.2.2.1, B.1.2.2.2.1, B.1.2.2.2.2.1, B.1.2.2.2.2.2, B.2.1, B.2.2.1, B.2.2.2.1, B.2.2.2.2, hts _ c3⟩, hts _ c4⟩ (pS st _ hR) rfl (by simp; omega) (by rw [← hlen]; exact hl.1) (xm_args st _) (lv_room (by rw [xm_cats]; exact hcat)) hd (rom hm m1 m2)) hlo kk
              unfold xm_back at hbk
              dsimp only at hbk
              split at hbk
              · rename_i pp hpp
                refine ⟨m1.tr hbk.1, fun hm lr H locs hR hl hlo hlen => thr hm lr H locs hR hl hlo hlen hbk.1 fun H' locs' E ce q1 q2 q3 q4 q5 q6 q7 => ?_⟩
                exact xm_thr hown hts hNw hNc (htab (fun h9 => by rw [h9] at hpp; cases hpp)) hok.2.1 q3 q4 hpp q5 q6 q7 (hfin (st' := [.ref x.2]) hm m1 hbk q1 hl q2 hlen)
              · rename_i hpp
                refine ⟨m1.tr (hQE _ _ hbk), fun hm lr H locs hR hl hlo hlen => thr hm lr H locs hR hl hlo hlen (hQE _ _ hbk) fun H' locs' E ce q1 q2 q3 q4 q5 q6 q7 => ?_⟩
                rw [cnt hm.1 m1.1, cnt hm.2 m1.2]
                exact eX x h' H' locs' lr pc _ E ce hbk hpp q1 q2 q3 q4 q5 q6 q7
          · rename_i k0
            simp only [k0] at ok2
            obtain ⟨N, host, c1, c2, c3, c4⟩ := ok2
            obtain ⟨hn, hcat, v, h', hC, hbk⟩ := hF
            obtain ⟨m1, hcon⟩ := hIH _ _ _ _ _ hC
            have B := cB (mc := xm_n h' - xm_n h) (ms := xm_sz h' - xm_sz h) c1 c2
            refine ⟨m1.tr hbk.1, fun hm lr H locs hR hl hlo hlen => ?_⟩
            refine xm_aft (va_runSN (host := host) (Ts := xgd) ⟨hx, hb, hml, hown, hts⟩ ((hcon N c1.1).1 v rfl) ⟨⟨B.1, B.2.1, B.2.2.1, B.2.2.2.1, B.2.2.2.2, (hNw _ c3).use rfl⟩, hts _ c4, trivial⟩ (pS st _ hR) rfl (by simp; omega) (by rw [← hlen]; exact hl.1) (xm_args st _) (lv_room (by rw [xm_cats]; exact hcat)) hd (rom hm m1 hbk.1)) hlo (fun H' locs' hR' hlo' => ?_)
            rw [xm_tl]
            exact hfin hm m1 hbk hR' hl hlo' hlen
          · rename_i k0
            simp only [k0] at ok2
            obtain ⟨N, x0, r0, c1, c2, c3, c4⟩ := ok2
            obtain ⟨hn, hcat, v, h', hC, hbk⟩ := hF
            obtain ⟨m1, hcon⟩ := hIH _ _ _ _ _ hC
            refine ⟨m1.tr hbk.1, fun hm lr H locs hR hl hlo hlen => ?_⟩
            refine xm_aft (vx_runSW (hh := xm_hh N.2.1) (Ts := xgd) ⟨hx, hb, hml, hown, hts⟩ ((hcon N c1.1).1 v rfl) (cW c1 c2 c3 c4) (pS st _ hR) rfl (by simp; omega) (by rw [← hlen]; exact hl.1) (xm_args st _) (lv_room (by rw [xm_cats]; exact hcat)) hd (rom hm m1 hbk.1)) hlo (fun H' locs' hR' hlo' => ?_)
            rw [xm_tl]
            exact hfin hm m1 hbk hR' hl hlo' hlen
          · rename_i k0
            simp only [k0] at ok2
            obtain ⟨c1, c2, c3, c4, c5⟩ := ok2
            split at hF
            · rename_i n dp b sp a r
              obtain ⟨a0, a1, a2, a3, a4, a5, a6, a7, a8, a9, hk⟩ := hF
              have hmo : xm_mo h (xm_cp h a sp.toNatClampNeg b dp.toNatClampNeg n.toNatClampNeg) := (xm_mo.rf : xm_mo h h)
              refine ⟨hmo.tr hk.1, fun hm lr H locs hR hl hlo hlen => ?_⟩
              obtain ⟨j, hj, hj3, hjt⟩ : ∃ j, xm_p0 pl 1 = 100 + j ∧ j < 3 ∧ ∃ ty, xat[j]? = some ty ∧ xm_ty (xm_p0 pl 1 - 100) = ty ∧ refKind ty = false := by
                rcases c5 with c5 | c5 | c5 <;> rw [c5]
                · exact ⟨0, rfl, by decide, _, rfl, rfl, rfl⟩
                · exact ⟨1, rfl, by decide, _, rfl, rfl, rfl⟩
                · exact ⟨2, rfl, by decide, _, rfl, rfl, rfl⟩
              obtain ⟨ty, t1, t2, t3⟩ := hjt
              rw [t2] at a0
              have e9 : ∀ (h : xm_H) (a i : Nat), xm_cv (xm_ad H0.size ct) (xm_get (xm_et (100 + j)) h a i) = .int (xm_i h a i) := fun h a i => by
                rcases (show j = 0 ∨ j = 1 ∨ j = 2 by omega) with rfl | rfl | rfl <;> rfl
              obtain ⟨scr, r1, r3, r4, r5, -, r6⟩ := xm_rowR hK hKc hR (a1.trans hj) t1
              have r2 := xm_row (j := j) hR a3 (a2.trans hj) (by omega)
              simp only [e9] at r6 r2
              refine xm_copy (c1 := aC j) (f := xm_i h a) (g := xm_i h b) hx hb (by rw [hml, ← hlen]; exact hl.1.symm) hown (hts _ c1) (hts _ c2) (hts _ c3) (hts _ c4) r1 r4 r5 r6 r2 r3 (xm_ar hK t1 _ _) t3 a6 a5 a4 a7 a8 a0 (by omega) ?_ hd (xm_ad_ge a3) hlo (fun H' locs' q1 q2 q3 q4 => ?_)
              · rw [xm_cats]
                have : nativeFrameWords "java/lang/System" "arraycopy" 5 ≤ 100 := by decide +kernel
                omega
              · refine hk.2 (hm.tr hmo) lr H' locs' (hR.upd (h' := xm_cp h a sp.toNatClampNeg b dp.toNatClampNeg n.toNatClampNeg) a3 (by omega) rfl (fun _ => rfl) (fun τ x y hy => xm_get_cp hy) q2 q3 q1 ⟨fun q => ?_, fun _ => ?_⟩) hl q4 hlen
                · have : (xm_k h b).1 < 100 := q
                  omega
                · have ek : xm_k (xm_cp h a sp.toNatClampNeg b dp.toNatClampNeg n.toNatClampNeg) b = xm_k h b := rfl
                  rw [ek, a2.trans hj, Nat.add_sub_cancel_left]
                  simp only [e9]
                  rw [vp_cell_i]
                  congr 1
                  funext i
                  simp only [va_cpy, xm_cp, xm_i, true_and]
            · exact hF.elim
          · rename_i k0
            simp only [k0] at ok2
            obtain ⟨c1, c2, c3, c4⟩ := ok2
            split at hF
            · rename_i y x r
              obtain ⟨a9, hk⟩ := hF
              refine ⟨hk.1, fun hm lr H locs hR hl hlo hlen => ?_⟩
              exact va_mmax hx hb (by rw [hml, ← hlen]; exact hl.1.symm) hown (hts _ c1) (hts _ c2) (hts _ c3) (hts _ c4) (by omega) (by rw [xm_cats]; omega) (by have := hk.1.1; omega) (by have := hk.1.2; omega) hd (hk.2 hm lr H locs hR hl hlo hlen)
            · exact hF.elim
          · rename_i k0
            simp only [k0] at ok2
            obtain ⟨c1, c2, c3, c4⟩ := ok2
            split at hF
            · rename_i y x r
              obtain ⟨a9, hk⟩ := hF
              refine ⟨hk.1, fun hm lr H locs hR hl hlo hlen => ?_⟩
              exact va_mmin hx hb (by rw [hml, ← hlen]; exact hl.1.symm) hown (hts _ c1) (hts _ c2) (hts _ c3) (hts _ c4) (by omega) (by rw [xm_cats]; omega) (by have := hk.1.1; omega) (by have := hk.1.2; omega) hd (hk.2 hm lr H locs hR hl hlo hlen)
            · exact hF.elim
          · exact hF.elim
        case invokevirtual idx =>
          simp only [xm_X] at hF
          simp only [xm_okX] at ok2
          split at hF
          · rename_i k0
            simp only [k0] at ok2
            obtain ⟨N, q, c1, c2, c5, c6, c3, c4, c7⟩ := ok2
            obtain ⟨⟨a, ha, hka⟩, hn, hcat, o, h', hC, hbk⟩ := hF
            obtain ⟨m1, hcon⟩ := hIH _ _ _ _ _ hC
            cases o with
            | inl v =>
              have B := cB (mc := xm_n h' - xm_n h) (ms := xm_sz h' - xm_sz h) c1 c2
              refine ⟨m1.tr hbk.1, fun hm lr H locs hR hl hlo hlen => ?_⟩
              refine xm_aft (va_runV (Ts := xgd) ⟨hx, hb, hml, hown, hts⟩ ((hcon N c1.1).1 v rfl) ⟨⟨B.1.1, B.1.2.1, B.1.2.2.1, B.1.2.2.2.1, B.1.2.2.2.2.1, B.1.2.2.2.2.2, B.2.1, B.2.2.1, B.2.2.2.1, B.2.2.2.2, hts _ c3⟩, hts _ c4, hts _ c7⟩ (pV hR ha hka c5 c6) rfl (by simp; omega) (by rw [← hlen]; exact hl.1) (xm_argsR ha) (lv_room (by rw [xm_cats]; exact hcat)) hd (rom hm m1 hbk.1)) hlo (fun H' locs' hR' hlo' => ?_)
              rw [xm_tl]
              exact hfin hm m1 hbk hR' hl hlo' hlen
            | inr x =>
              have B := cB (mc := xm_n h' - xm_n h) (ms := xm_sz h' - xm_sz h) c1 c2
              have thr : xm_mo h0 h → ∀ (lr : Array Slot) (H : Heap) (locs : List Loc), xm_R D aC ct H0 h H → xm_lh (xm_ad H0.size ct) lr ls → (∀ l ∈ locs, H0.size ≤ l.base) → ls.length = M.2.2.2.2.1 → xm_mo h' hE → (∀ (H' : Heap) (locs' : List Loc) (E : String) (ce : Cell), xm_R D aC ct H0 h' H' → (∀ l ∈ locs', H0.size ≤ l.base) → xec[x.1 - 14]? = some E → 14 ≤ x.1 → H'[xm_ad H0.size ct x.2]? = some ce → ce.vm = .none → s.vm.findClass E = some ce.cls → vx_W p l e R s m args below meth c H' locs' (xm_n h - xm_n h0 + (xm_n h' - xm_n h)) (xm_sz h - xm_sz h0 + (xm_sz h' - xm_sz h)) Z (F0 m pc lr ((st.drop (xm_p0 pl 2 + 1)).map (xm_cv (xm_ad H0.size ct)))) (xm_ad H0.size ct x.2)) → W p l e R s m args below meth c H locs (xm_n h - xm_n h0) (xm_sz h - xm_sz h0) Z (F0 m pc lr (st.map (xm_cv (xm_ad H0.size ct)))) := fun hm lr H locs hR hl hlo hlen m2 kk =>
                xm_aftX (vx_runV (Ts := xgd) ⟨hx, hb, hml, hown, hts⟩ ((hcon N c1.1).2 x rfl c2) ⟨⟨B.1.1, B.1.2.1, B.1.2.2.1, B.1.2.2.2.1, B.1.2.2.2.2.1, B.1.2.2.2.2.2, B.2.1, B.2.2.1, B.2.2.2.1, B.2.2.2.2, hts _ c3⟩, hts _ c4, hts _ c7⟩ (pV hR ha hka c5 c6) rfl (by simp; omega) (by rw [← hlen]; exact hl.1) (xm_argsR ha) (lv_room (by rw [xm_cats]; exact hcat)) hd (rom hm m1 m2)) hlo kk
              unfold xm_back at hbk
              dsimp only at hbk
              split at hbk
              · rename_i pp hpp
                refine ⟨m1.tr hbk.1, fun hm lr H locs hR hl hlo hlen => thr hm lr H locs hR hl hlo hlen hbk.1 fun H' locs' E ce q1 q2 q3 q4 q5 q6 q7 => ?_⟩
                exact xm_thr hown hts hNw hNc (htab (fun h9 => by rw [h9] at hpp; cases hpp)) hok.2.1 q3 q4 hpp q5 q6 q7 (hfin (st' := [.ref x.2]) hm m1 hbk q1 hl q2 hlen)
              · rename_i hpp
                refine ⟨m1.tr (hQE _ _ hbk), fun hm lr H locs hR hl hlo hlen => thr hm lr H locs hR hl hlo hlen (hQE _ _ hbk) fun H' locs' E ce q1 q2 q3 q4 q5 q6 q7 => ?_⟩
                rw [cnt hm.1 m1.1, cnt hm.2 m1.2]
                exact eX x h' H' locs' lr pc _ E ce hbk hpp q1 q2 q3 q4 q5 q6 q7
          · rename_i k0
            simp only [k0] at ok2
            obtain ⟨N, q, x9, c1, c2, c5, c6, c3, c4, c7, c8, c9, c10⟩ := ok2
            obtain ⟨⟨a, ha, hka⟩, hn, hcat, v, h', hC, hbk⟩ := hF
            obtain ⟨m1, hcon⟩ := hIH _ _ _ _ _ hC
            have B := cB (mc := xm_n h' - xm_n h) (ms := xm_sz h' - xm_sz h) c1 c2
            refine ⟨m1.tr hbk.1, fun hm lr H locs hR hl hlo hlen => ?_⟩
            refine xm_aft (va_runU (x := x9) (owner := N.2.2.1.cls) (Ts := xgd) ⟨hx, hb, hml, hown, hts⟩ ((hcon N c1.1).1 v rfl) ⟨B.1, B.2.1, B.2.2.1, B.2.2.2.1, by rw [← c10]; exact B.2.2.2.2, hts _ c3, hts _ c4, by rw [← c9, ← c10]; exact va_Decl.of (hts _ c8) B.2.1, hts _ c7, hts _ c8⟩ (pV hR ha hka c5 c6) rfl (by simp; omega) (by rw [← hlen]; exact hl.1) (xm_argsR ha) (lv_room (by rw [xm_cats]; exact hcat)) hd (rom hm m1 hbk.1)) hlo (fun H' locs' hR' hlo' => ?_)
            rw [xm_tl]
            exact hfin hm m1 hbk hR' hl hlo' hlen
          · exact hF.elim
        case invokespecial idx =>
          simp only [xm_X] at hF
          simp only [xm_okX] at ok2
          split at hF
          · rename_i k0
            simp only [k0] at ok2
            obtain ⟨N, c1, c2, c5, c6, c3, c4⟩ := ok2
            obtain ⟨⟨a, ha, hka⟩, hn, hcat, v, h', hC, hbk⟩ := hF
            obtain ⟨m1, hcon⟩ := hIH _ _ _ _ _ hC
            have B := cB (mc := xm_n h' - xm_n h) (ms := xm_sz h' - xm_sz h) c1 c2
            refine ⟨m1.tr hbk.1, fun hm lr H locs hR hl hlo hlen => ?_⟩
            refine xm_aft (va_runI (Ts := xgd) ⟨hx, hb, hml, hown, hts⟩ ((hcon N c1.1).1 v rfl) ⟨by rw [← c5]; exact ⟨B.1.1, B.1.2.1, B.1.2.2.1, B.1.2.2.2.1, B.1.2.2.2.2.1, B.1.2.2.2.2.2, B.2.1, B.2.2.1, B.2.2.2.1, B.2.2.2.2, hts _ c3⟩, c6, hts _ c4⟩ (pI hR ha) rfl (by simp; omega) (by rw [← hlen]; exact hl.1) (xm_argsR ha) (lv_room (by rw [xm_cats]; exact hcat)) hd (rom hm m1 hbk.1)) hlo (fun H' locs' hR' hlo' => ?_)
            rw [xm_tl]
            exact hfin hm m1 hbk hR' hl hlo' hlen
          · rename_i k0
            simp only [k0] at ok2
            obtain ⟨N, host, c1, c2, c5, c6, c3, c4⟩ := ok2
            obtain ⟨⟨a, ha, hka⟩, hn, hcat, v, h', hC, hbk⟩ := hF
            obtain ⟨m1, hcon⟩ := hIH _ _ _ _ _ hC
            have B := cB (mc := xm_n h' - xm_n h) (ms := xm_sz h' - xm_sz h) c1 c2
            refine ⟨m1.tr hbk.1, fun hm lr H locs hR hl hlo hlen => ?_⟩
            refine xm_aft (va_runIN (host := host) (Ts := xgd) ⟨hx, hb, hml, hown, hts⟩ ((hcon N c1.1).1 v rfl) ⟨by rw [← c5]; exact ⟨B.1, B.2.1, B.2.2.1, B.2.2.2.1, B.2.2.2.2, (hNw _ c3).use rfl⟩, c6, hts _ c4⟩ (pI hR ha) rfl (by simp; omega) (by rw [← hlen]; exact hl.1) (xm_argsR ha) (lv_room (by rw [xm_cats]; exact hcat)) hd (rom hm m1 hbk.1)) hlo (fun H' locs' hR' hlo' => ?_)
            rw [xm_tl]
            exact hfin hm m1 hbk hR' hl hlo' hlen
          · rename_i k0
            simp only [k0] at ok2
            obtain ⟨N, q, c1, c2, c5, c6, c7, c3, c4, c8, c9⟩ := ok2
            obtain ⟨⟨a, ha, hka⟩, hn, hcat, v, h', hC, hbk⟩ := hF
            obtain ⟨m1, hcon⟩ := hIH _ _ _ _ _ hC
            have B := cB (mc := xm_n h' - xm_n h) (ms := xm_sz h' - xm_sz h) c1 c2
            refine ⟨m1.tr hbk.1, fun hm lr H locs hR hl hlo hlen => ?_⟩
            refine xm_aft (va_runSU ((hK.1 _ q c5).2) (Ts := xgd) ⟨hx, hb, hml, hown, hts⟩ ((hcon N c1.1).1 v rfl) ⟨B.1, hts _ c3, hts _ c4, hts _ c8, hts _ c9, B.2.2.1, B.2.1, c7, B.2.2.2.2⟩ (pV hR ha hka c5 c6) rfl (by simp; omega) (by rw [← hlen]; exact hl.1) (xm_argsR ha) (lv_room (by rw [xm_cats]; exact hcat)) hd (rom hm m1 hbk.1)) hlo (fun H' locs' hR' hlo' => ?_)
            rw [xm_tl]
            exact hfin hm m1 hbk hR' hl hlo' hlen
          · rename_i k0
            simp only [k0] at ok2
            obtain ⟨c1, c2, c3⟩ := ok2
            split at hF
            · rename_i a r
              obtain ⟨a9, hk⟩ := hF
              refine ⟨hk.1, fun hm lr H locs hR hl hlo hlen => ?_⟩
              exact W.objInit hx hb hown (hts _ c1) (hts _ c2) (hts _ c3) rfl (by rw [hml, ← hlen]; exact hl.1) rfl hd (by omega) (by rw [xm_cats]; show 2 * 0 + _ + 12 ≤ _; omega) (hk.2 hm lr H locs hR hl hlo hlen)
            · exact hF.elim
          · exact hF.elim
        case ireturn =>
          simp only [xm_X] at hF
          split at hF
          · rename_i x
            obtain ⟨⟨ty, t1, t2⟩, hq⟩ := hF
            exact ⟨hQE _ _ hq, fun hm lr H locs hR hl hlo hlen => eR _ _ _ _ _ _ _ hq hR hlo hd (Or.inl ⟨rfl, x, ty, rfl, t1, t2⟩)⟩
          · exact hF.elim
        case dreturn =>
          simp only [xm_X] at hF
          split at hF
          · rename_i x
            exact ⟨hQE _ _ hF, fun hm lr H locs hR hl hlo hlen => eR _ _ _ _ _ _ _ hF hR hlo hd (Or.inr (Or.inl ⟨rfl, x, rfl, ok2⟩))⟩
          · exact hF.elim
        case areturn =>
          simp only [xm_X] at hF
          split at hF
          · rename_i x
            exact ⟨hQE _ _ hF, fun hm lr H locs hR hl hlo hlen => eR _ _ _ _ _ _ _ hF hR hlo hd (Or.inr (Or.inr (Or.inl ⟨rfl, Or.inr ⟨x, rfl⟩, ok2⟩)))⟩
          · exact ⟨hQE _ _ hF, fun hm lr H locs hR hl hlo hlen => eR _ _ _ _ _ _ _ hF hR hlo hd (Or.inr (Or.inr (Or.inl ⟨rfl, Or.inl rfl, ok2⟩)))⟩
          · exact hF.elim
        case return_ =>
          simp only [xm_X] at hF
          split at hF
          · exact ⟨hQE _ _ hF, fun hm lr H locs hR hl hlo hlen => eR _ _ _ _ _ _ _ hF hR hlo hd (Or.inr (Or.inr (Or.inr ⟨rfl, rfl, ok2⟩)))⟩
          · exact hF.elim
        case new idx =>
          simp only [xm_X] at hF
          split at hF
          · exact hF.elim
          · rename_i k0
            obtain ⟨hcat, hq⟩ := hF
            exact ⟨(xm_mo.nw _ _).tr (hQE _ _ hq), fun hm lr H locs hR hl hlo hlen => eT idx mk pl cv pc ls st h H locs lr ok2 k0 hd hcat hq hR (by rw [hml, ← hlen]; exact hl.1) hlo hm.1 hm.2⟩
        case getstatic idx =>
          simp only [xm_X] at hF
          have k0 : xm_p0 pl 0 ≠ 0 := fun q => by simp [xm_G, q, xm_ok] at hGn
          obtain ⟨C, n, d9, o1, o2⟩ := ok2 k0
          refine ⟨(hF .null (Or.inl rfl)).1, fun hm lr H locs hR hl hlo hlen => ?_⟩
          rcases hQL _ o1 with hZ | hZ
          · obtain ⟨cf, kf, fi, f, a, cell, h1, h2, h3, h4, h5, h6, h7, h8⟩ := hZ
            exact W.gets hx hb hown (hts _ o2) h1 h2 h3 h4 (by rw [hR.2.2.1 a (Nat.not_le.mp h8)]; exact h5) (fun e => by rw [e] at h6; cases h6) h7 rfl hd ((hF .null (Or.inl rfl)).2 hm lr H locs hR hl hlo hlen)
          · obtain ⟨cf, kf, fi, f, a, cell, h1, h2, h3, h4, h5, h6, h7, h8⟩ := hZ
            exact W.gets hx hb hown (hts _ o2) h1 h2 h3 h4 (by rw [hR.2.2.1 a (Nat.not_le.mp h8)]; exact h5) (fun e => by rw [e] at h6; cases h6) h7 rfl hd ((hF (.ref 159) (Or.inr ⟨_, rfl⟩)).2 hm lr H locs hR hl hlo hlen)
    refine ⟨main.1, fun hm lr H locs hR hl hlo hlen => ?_⟩
    cases mk with
    | none => exact main.2 hm lr H locs hR hl hlo hlen
    | some mm =>
      have hmm := okm mm rfl
      exact main.2 hm lr H locs hR (hl.mask mm (by rw [hmm, hlen])) hlo (by simp [xm_mk, hmm, hlen])
  · exact hF.elim
end Main
