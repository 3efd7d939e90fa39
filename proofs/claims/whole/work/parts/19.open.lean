/-! the claim out of the law's run; the rows about lw_ began from the kit's skeleton -/
/-! THE CLAIM OUT OF ONE WALK OF THE LAW'S BODY. Your part is whole_start (and what it stands on); all else here is the same for every law, but numbers. -/
def R_law : String := "AdMarketplaceLaw"
def lw_P (b : Addr) (xs : List Int32) (args : Array Value) (s : State) : Prop := args = #[.ref b] ∧ s.IntsAt b xs ∧ xs.length ≤ 3072 ∧ (Jvm.Cond.and given_1 narrow_1).before args s = true
/-- what a walk over the start with the record d0 says of its end, said of the start itself -/
theorem lw_closed {s t : State} {o : Outcome} {d0 : Drawn} {L : List Loc} {k n : Nat} (hd0 : s.drawn.sameBut d0 lw_cs) (hv : ∃ v, o = .returned v) (hW : (s.setDrawn d0).WarmedH t.vm) (hs : (s.setDrawn d0).sameButNew ({ t with vm := s.vm } : State) L k n) : State.butDraws s t lw_cs (fun t1 => Framed s o t1 L k n) := by
  have h2 : t.drawn = d0 := congrArg State.drawn hs.1
  refine ⟨⟨hv, hW, State.sameButNew.setDrawn hs s.drawn⟩, ?_, by decide⟩
  rw [h2]
  exact hd0
def lw_Q (_ : Array Value) (s : State) (o : Outcome) (t : State) : Prop := o = .returned (some (.int 1)) ∧ State.butDraws s t lw_cs (fun t1 => Framed s o t1 [] 601024 7293034)
def lw_Z (below : List Frame) (a : Array Value) (s : State) : State → Prop := fun t => ∃ o, t.status = .running ∧ Ended t below o ∧ lw_Q a s o t
/-- the law's own end, with 1 on the stack, nothing written that was there before, its room as the claim has it; d0: the record of draws at this point (at the entry s.drawn: begin with 'refine W.base ?_' and 'have hd0 := Drawn.sameBut.refl s.drawn lw_cs') -/
theorem lw_ret {p : Program} {l : Launch} {e : Env} {s : State} {m : MethodId} {below : List Frame} {meth : Method} {c : Code} {b : Nat} {d0 : Drawn} (hd0 : s.drawn.sameBut d0 lw_cs) (hx : p.tables.exec = Jvm.exec) (hb : c.code = code) (hr : meth.sig.returnType = ret) (hlocks : meth.locks = false) {pc : Nat} {H : Heap} {ls : Array Slot} (hdg : decode code pc = .ok (.ireturn, 1)) : W p l e room_1 (s.setDrawn d0) m #[Value.ref b] below meth c H [] 601024 7293034 (lw_Z below #[Value.ref b] s) (F0 m pc ls [.int 1]) := by
  intro T hT X
  obtain ⟨fs, hret, hrun, hended, hW, hframe⟩ := X.leave (v := some (.int 1)) (hlocks := hlocks) (fun h => by rw [hr] at h; cases h)
  have hmeth' : T.vm.method? m = some meth := X.method'
  refine ⟨T.setFrames fs, ?_, .returned (some (.int 1)), hrun, hended, rfl, lw_closed hd0 ⟨_, rfl⟩ hW hframe⟩
  jvm_step X.here [X.here.top, hx, hb, hdg, hmeth', hr, ret, narrow_b1]
  (try refine ⟨rfl, ?_⟩); (try refine ⟨rfl, ?_⟩)
  first | (intro acts; rw [hret _ acts rfl rfl rfl]) | rw [hret _ _ rfl rfl rfl]
  exact Steps.refl _
/-- what holds at the law's entry: the machine, the code, the tables' words (any of lw_tbl by 'hts w (by decide +kernel)'), the script of L ints xs at the cell b, what the Statement gives of the start (any of its parts by flat_of_before) -/
def lw_At (p : Program) (s : State) (m : MethodId) (meth : Method) (c : Code) (b L : Nat) (xs : Nat → Int32) : Prop :=
  p.tables.exec = Jvm.exec ∧ c.code = code ∧ meth.sig.returnType = ret ∧ c.maxLocals = 9 ∧ s.vm.findClass R_law = some m.cls ∧ (∀ w ∈ lw_tbl, w.before #[Value.ref b] s = true) ∧ va_X b L xs s s.heap ∧ b < s.heap.size ∧ meth.locks = false ∧ (Jvm.Cond.and given_1 narrow_1).before #[Value.ref b] s = true
/-- a memory large enough for every run of the law -/
def xm_big (n z : Nat) : xm_H := (n, fun i => if i = 0 then (100, z) else (100, 0), fun _ _ => 0, fun _ _ => 0, fun _ _ => 0, fun _ _ => none)
theorem xm_big_sz (z : Nat) : ∀ n, xm_sz (xm_big (n + 1) z) = z := by
  intro n
  induction n with
  | zero => rfl
  | succ n ih =>
    unfold xm_sz at ih ⊢
    have e1 : xm_n (xm_big (n + 1 + 1) z) = n + 1 + 1 := rfl
    have e2 : xm_n (xm_big (n + 1) z) = n + 1 := rfl
    rw [e1, List.range_succ, List.map_append, List.sum_append]
    rw [e2] at ih
    have e3 : (List.map (fun i => xm_ks (xm_k (xm_big (n + 1 + 1) z) i)) [n + 1]).sum = 0 := by
      simp [xm_k, xm_big, xm_ks]
    rw [e3, Nat.add_zero]
    exact ih
set_option maxHeartbeats 4000000 in
set_option maxRecDepth 100000 in
/-- the walk of the law's body, out of its run in the little machine -/
theorem whole_open (hlaw : xm_law 60) {p : Program} {e : Env} {s : State} {m : MethodId} {below : List Frame} {meth : Method} {c : Code} (l : Launch) (hflags : l.flags = flags0) {b L : Nat} {xs : Nat → Int32} (hL : L ≤ 3072) (C0 : lw_At p s m meth c b L xs) : W p l e room_1 s m #[Value.ref b] below meth c s.heap [] 0 0 (lw_Z below #[Value.ref b] s) (entryFrame m ([Value.ref b] : List Value).toArray 9) := by
  obtain ⟨hx, hb, hr, hml, hown, hts, hX, hbl, hlocks, hgv⟩ := C0
  obtain ⟨D, aC, ct, hct, hKU, hR, had0⟩ := xm_start hts hX hbl hgv
  have hst : l.stackTraces = false := by
    unfold Launch.stackTraces
    rw [hflags]
    decide +kernel
  have hg : ∀ w ∈ xgd, w.before #[Value.ref b] s = true := fun w h => xxt_ok hts w (List.mem_filter.mp h).1
  have hIH : xm_IH xSL xZL xQL D aC ct s.heap xX l 60 := xm_all hst xX_ok 60
  have Fx : xm_Fx xSL xZL xQL D aC ct s.heap p s m #[Value.ref b] meth c xM_L_law := ⟨hx, hb, hml, hown, hg, hKU, hlocks, fun h => absurd h (by decide), fun q _ => rfl, Nat.le_refl _⟩
  have hE1 : xm_n (xm_big 600001 7290000) = 600001 := rfl
  have hE2 : xm_sz (xm_big 600001 7290000) = 7290000 := xm_big_sz 7290000 600000
  have hbody := xm_body (p := p) (e := e) (R := room_1) (below := below) (Z := lw_Z below #[Value.ref b] s) (h0 := xhc L xs) (hE := xm_big 600001 7290000) hIH Fx xo_L_law (fun h => absurd rfl h) (Nat.le_of_ble_eq_true rfl) (Nat.le_of_ble_eq_true rfl)
    (Qf := fun o h => o = .inl (some (.int 1)) ∧ xm_n h ≤ 600000 ∧ xm_sz h ≤ 7290000) (fun o h q => ⟨by rw [hE1]; omega, by rw [hE2]; exact q.2.2⟩) (by rw [hE1]; show _ ≤ 601024; omega) (by rw [hE2]; show _ ≤ 7293034; omega)
    (by
      intro v h H locs lr pc i hq hR' hlo hd hcase
      obtain ⟨q1, q2, q3⟩ := hq
      cases Sum.inl.inj q1
      rcases hcase with ⟨rfl, x, ty, hv, t1, t2⟩ | ⟨rfl, x, hv, t1⟩ | ⟨rfl, t1, rt, t2, t3⟩ | ⟨rfl, hv, t1⟩
      · refine va_forget hlo ?_
        refine W.widen (k := 601024) (n := 7293034) (by omega) (by omega) ?_
        exact lw_ret (d0 := s.drawn) (Drawn.sameBut.refl s.drawn lw_cs) hx hb hr hlocks hd
      · cases hv
      · rcases t1 with hv | ⟨x, hv⟩ <;> cases hv
      · cases hv)
    (by
      intro x h H locs lr pc rest E ce hq
      cases hq.1)
    (by
      intro ik mk pl cv pc ls st h H locs lr _ _ _ _ hq
      cases hq.1)
    (hlaw L xs hL)
  have k2 := hbody.2 xm_mo.rf _ s.heap [] hR (xm_entry (ad := xm_ad s.heap.size ct) [.ref 0] (n := 9) (by decide)) (fun l hl => nomatch hl) rfl
  rw [Nat.sub_self, Nat.sub_self] at k2
  have e0 : ([Value.ref b] : List Value) = [Value.ref 0].map (xm_cv (xm_ad s.heap.size ct)) := by
    show [Value.ref b] = [Value.ref (xm_ad s.heap.size ct 0)]
    rw [had0]
  have e1 : entryFrame m ([Value.ref b] : List Value).toArray 9 = F0 m 0 (lg_sl (List.map (xm_cv (xm_ad s.heap.size ct)) [Value.ref 0]) ++ List.replicate (9 - (lg_sl (List.map (xm_cv (xm_ad s.heap.size ct)) [Value.ref 0])).length) Slot.unset).toArray [] := by
    rw [e0, lg_entry_eq]
  rw [e1]
  exact k2
