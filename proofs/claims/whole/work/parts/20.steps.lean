/-! steps of the little machine, for proofs about methods -/
theorem xm_inv_C {C C' : xm_Cl} (hC : ∀ y as h o h', C y as h o h' → C' y as h o h') {M : xm_M} {y n pc : Nat} {ls : xm_L} {st : List Value} {h : xm_H} {K : xm_P} {Q : xm_O → xm_H → Prop} (hb : xm_inv C M y n pc ls st h K Q) : xm_inv C' M y n pc ls st h K Q := by
  obtain ⟨h1, h2, o, h', h3, h4⟩ := hb
  exact ⟨h1, h2, o, h', hC _ _ _ _ _ h3, h4⟩
theorem xm_in1_C {C C' : xm_Cl} (hC : ∀ y as h o h', C y as h o h' → C' y as h o h') {y n pc : Nat} {ls : xm_L} {st : List Value} {h : xm_H} {K : xm_P} (hb : xm_in1 C y n pc ls st h K) : xm_in1 C' y n pc ls st h K := by
  obtain ⟨h1, h2, v, h', h3, h4⟩ := hb
  exact ⟨h1, h2, v, h', hC _ _ _ _ _ h3, h4⟩
theorem xm_X_C {C C' : xm_Cl} (hC : ∀ y as h o h', C y as h o h' → C' y as h o h') {M : xm_M} {i : Instr} {pl : List Nat} {pc : Nat} {ls : xm_L} {st : List Value} {h : xm_H} {K : xm_P} {Q : xm_O → xm_H → Prop} (hb : xm_X C M i pl pc ls st h K Q) : xm_X C' M i pl pc ls st h K Q := by
  unfold xm_X at hb ⊢
  split at hb
  · split at hb
    · exact xm_inv_C hC hb
    · exact xm_in1_C hC hb
    · exact xm_in1_C hC hb
    · exact hb
    · exact hb
    · exact hb
    · exact hb
  · split at hb
    · exact ⟨hb.1, xm_inv_C hC hb.2⟩
    · exact ⟨hb.1, xm_in1_C hC hb.2⟩
    · exact hb
  · split at hb
    · exact ⟨hb.1, xm_in1_C hC hb.2⟩
    · exact ⟨hb.1, xm_in1_C hC hb.2⟩
    · exact ⟨hb.1, xm_in1_C hC hb.2⟩
    · exact hb
    · exact hb
  · exact hb
  · exact hb
  · exact hb
  · exact hb
  · exact hb
  · exact hb
  · exact hb
theorem xm_W_C {C C' : xm_Cl} (hC : ∀ y as h o h', C y as h o h' → C' y as h o h') {M : xm_M} {Q : xm_O → xm_H → Prop} {pc : Nat} {ls : xm_L} {st : List Value} {h : xm_H} (hw : xm_W C M Q pc ls st h) : xm_W C' M Q pc ls st h := by
  intro P hP
  refine hw P fun pc ls st h hF => hP pc ls st h ?_
  unfold xm_F at hF ⊢
  split at hF
  · unfold xm_F1 at hF ⊢
    split at hF
    · exact hF
    · exact xm_X_C hC hF
  · exact hF
theorem xm_Rn_s (X : List xm_M) : ∀ d y as h o h', xm_Rn X d y as h o h' → xm_Rn X (d + 1) y as h o h' := by
  intro d
  induction d with
  | zero => intro y as h o h' hr; exact hr.elim
  | succ d ih =>
    intro y as h o h' hr
    obtain ⟨M, h1, h2, h3⟩ := hr
    exact ⟨M, h1, h2, xm_W_C ih h3⟩
theorem xm_Rn_le {X : List xm_M} {d d' : Nat} (hd : d ≤ d') {y : Nat} {as : List Value} {h : xm_H} {o : xm_O} {h' : xm_H} (hr : xm_Rn X d y as h o h') : xm_Rn X d' y as h o h' := by
  induction hd with
  | refl => exact hr
  | step _ ih => exact xm_Rn_s X _ _ _ _ _ _ ih
/-- a method's run begins -/
theorem xr_in {X : List xm_M} {d y : Nat} {M : xm_M} {as : List Value} {h h' : xm_H} {o : xm_O} (hM : X[y]? = some M) (hl : (xm_av as).length ≤ M.2.2.2.2.1) (hw : xm_W (xm_Rn X d) M (fun o1 h1 => o1 = o ∧ h1 = h') 0 (xm_en M.2.2.2.2.1 as) [] h) : xm_Rn X (d + 1) y as h o h' := ⟨M, hM, hl, hw⟩
section Steps
variable {C : xm_Cl} {M : xm_M} {Q : xm_O → xm_H → Prop} {pc : Nat} {ls : xm_L} {st r : List Value} {h : xm_H} {pl : List Nat} {cv : Value}
theorem xw_G {i : Instr} {φ : Prop} {pc' : Nat} {ls' : xm_L} {st' : List Value} {h' : xm_H} (he : xm_at M pc = some (i, none, pl, cv)) (hg : xm_G i pl cv pc ls st h = some (φ, pc', ls', st', h')) (hφ : φ) (k : xm_W C M Q pc' ls' st' h') : xm_W C M Q pc ls st h := by
  refine xm_go he ?_
  unfold xm_F1
  dsimp only
  rw [hg]
  exact ⟨hφ, k⟩
theorem xw_K {i : Instr} {m : List Bool} {φ : Prop} {pc' : Nat} {ls' : xm_L} {st' : List Value} {h' : xm_H} (he : xm_at M pc = some (i, some m, pl, cv)) (hg : xm_G i pl cv pc (xm_mk (some m) ls) st h = some (φ, pc', ls', st', h')) (hφ : φ) (k : xm_W C M Q pc' ls' st' h') : xm_W C M Q pc ls st h := by
  refine xm_cut he ?_
  unfold xm_F1
  dsimp only
  rw [hg]
  exact ⟨hφ, k⟩
/-- at a cut point the masked locals are as good -/
theorem xw_M {i : Instr} {m : List Bool} (he : xm_at M pc = some (i, some m, pl, cv)) (hm : xm_mk (some m) (xm_mk (some m) ls) = xm_mk (some m) ls) (k : xm_W C M Q pc (xm_mk (some m) ls) st h) : xm_W C M Q pc ls st h := by
  intro P hP
  have k2 : ∀ pc2 ls2 st2 h2, xm_F C M pc2 ls2 st2 h2 (fun p l s g => P p l s g ∧ (p = pc → ∀ l0, xm_mk (some m) l0 = xm_mk (some m) l → P p l0 s g)) Q → P pc2 ls2 st2 h2 ∧ (pc2 = pc → ∀ l0, xm_mk (some m) l0 = xm_mk (some m) ls2 → P pc2 l0 st2 h2) := by
    intro pc2 ls2 st2 h2 hF
    have hF2 := xm_F_mono (K' := P) (fun _ _ _ _ z => z.1) hF
    refine ⟨hP _ _ _ _ hF2, fun e l0 el => hP _ _ _ _ ?_⟩
    subst e
    unfold xm_F at hF2 ⊢
    rw [he] at hF2 ⊢
    dsimp only at hF2 ⊢
    rw [el]
    exact hF2
  exact (k _ k2).2 rfl ls hm.symm
theorem xw_if {c : Jvm.ClassFile.Cond} {off : Int} {t : Nat} {x : Int32} (he : xm_at M pc = some (.ifCond c off, none, t :: pl, cv)) (kt : xm_cb c x 0 = true → xm_W C M Q t ls r h) (kf : xm_cb c x 0 = false → xm_W C M Q (pc + 3) ls r h) : xm_W C M Q pc ls (.int x :: r) h := by
  refine xw_G he rfl trivial ?_
  cases hc : xm_cb c x 0 with
  | true => exact kt hc
  | false => exact kf hc
theorem xw_ic {c : Jvm.ClassFile.Cond} {off : Int} {t : Nat} {x y : Int32} (he : xm_at M pc = some (.if_icmp c off, none, t :: pl, cv)) (kt : xm_cb c x y = true → xm_W C M Q t ls r h) (kf : xm_cb c x y = false → xm_W C M Q (pc + 3) ls r h) : xm_W C M Q pc ls (.int y :: .int x :: r) h := by
  refine xw_G he rfl trivial ?_
  cases hc : xm_cb c x y with
  | true => exact kt hc
  | false => exact kf hc
theorem xw_ret {x : Int32} {ty : FieldType} (he : xm_at M pc = some (.ireturn, none, pl, cv)) (ht : M.2.2.2.2.2 = some ty) (hn : narrow ty (.int x) = .int x) (k : Q (.inl (some (.int x))) h) : xm_W C M Q pc ls [.int x] h := by
  refine xm_go he ?_
  exact ⟨⟨ty, ht, hn⟩, k⟩
theorem xw_vret (he : xm_at M pc = some (.return_, none, pl, cv)) (k : Q (.inl none) h) : xm_W C M Q pc ls [] h := xm_go he k
theorem xw_dret {x : UInt64} (he : xm_at M pc = some (.dreturn, none, pl, cv)) (k : Q (.inl (some (.double x))) h) : xm_W C M Q pc ls [.double x] h := xm_go he k
theorem xw_aret {x : Nat} (he : xm_at M pc = some (.areturn, none, pl, cv)) (k : Q (.inl (some (.ref x))) h) : xm_W C M Q pc ls [.ref x] h := xm_go he k
/-- calls -/
theorem xw_S {idx y n : Nat} {v : Option Value} {h' : xm_H} (he : xm_at M pc = some (.invokestatic idx, none, 0 :: y :: n :: pl, cv)) (hl : n ≤ st.length) (hc : ((st.drop n).map fun v => v.category).sum ≤ 8) (hC : C y (st.take n).reverse h (.inl v) h') (k : xm_W C M Q (pc + 3) ls (v.toList ++ st.drop n) h') : xm_W C M Q pc ls st h := xm_go he ⟨hl, hc, _, _, hC, k⟩
theorem xw_S3 {idx y n : Nat} {v : Option Value} {h' : xm_H} (he : xm_at M pc = some (.invokestatic idx, none, 3 :: y :: n :: pl, cv)) (hl : n ≤ st.length) (hc : ((st.drop n).map fun v => v.category).sum ≤ 8) (hC : C y (st.take n).reverse h (.inl v) h') (k : xm_W C M Q (pc + 3) ls (v.toList ++ st.drop n) h') : xm_W C M Q pc ls st h := xm_go he ⟨hl, hc, _, _, hC, k⟩
theorem xw_S10 {idx y n : Nat} {v : Option Value} {h' : xm_H} (he : xm_at M pc = some (.invokestatic idx, none, 10 :: y :: n :: pl, cv)) (hl : n ≤ st.length) (hc : ((st.drop n).map fun v => v.category).sum ≤ 8) (hC : C y (st.take n).reverse h (.inl v) h') (k : xm_W C M Q (pc + 3) ls (v.toList ++ st.drop n) h') : xm_W C M Q pc ls st h := xm_go he ⟨hl, hc, _, _, hC, k⟩
theorem xw_max {idx : Nat} {x y : Int32} (he : xm_at M pc = some (.invokestatic idx, none, 11 :: pl, cv)) (hc : (r.map fun v => v.category).sum ≤ 8) (k : xm_W C M Q (pc + 3) ls (.int (if x < y then y else x) :: r) h) : xm_W C M Q pc ls (.int y :: .int x :: r) h := xm_go he ⟨hc, k⟩
theorem xw_min {idx : Nat} {x y : Int32} (he : xm_at M pc = some (.invokestatic idx, none, 12 :: pl, cv)) (hc : (r.map fun v => v.category).sum ≤ 8) (k : xm_W C M Q (pc + 3) ls (.int (if y < x then y else x) :: r) h) : xm_W C M Q pc ls (.int y :: .int x :: r) h := xm_go he ⟨hc, k⟩
theorem xw_V {idx y n t a : Nat} {v : Option Value} {h' : xm_H} (he : xm_at M pc = some (.invokevirtual idx, none, 1 :: y :: n :: t :: pl, cv)) (ha : st[n]? = some (.ref a)) (hk : (xm_k h a).1 = t) (hl : n + 1 ≤ st.length) (hc : ((st.drop (n + 1)).map fun v => v.category).sum ≤ 8) (hC : C y (st.take (n + 1)).reverse h (.inl v) h') (k : xm_W C M Q (pc + 3) ls (v.toList ++ st.drop (n + 1)) h') : xm_W C M Q pc ls st h := xm_go he ⟨⟨a, ha, hk⟩, hl, hc, _, _, hC, k⟩
theorem xw_V6 {idx y n t a : Nat} {v : Option Value} {h' : xm_H} (he : xm_at M pc = some (.invokevirtual idx, none, 6 :: y :: n :: t :: pl, cv)) (ha : st[n]? = some (.ref a)) (hk : (xm_k h a).1 = t) (hl : n + 1 ≤ st.length) (hc : ((st.drop (n + 1)).map fun v => v.category).sum ≤ 8) (hC : C y (st.take (n + 1)).reverse h (.inl v) h') (k : xm_W C M Q (pc + 3) ls (v.toList ++ st.drop (n + 1)) h') : xm_W C M Q pc ls st h := xm_go he ⟨⟨a, ha, hk⟩, hl, hc, _, _, hC, k⟩
theorem xw_I2 {idx y n t a : Nat} {v : Option Value} {h' : xm_H} (he : xm_at M pc = some (.invokespecial idx, none, 2 :: y :: n :: t :: pl, cv)) (ha : st[n]? = some (.ref a)) (hk : (xm_k h a).1 = t) (hl : n + 1 ≤ st.length) (hc : ((st.drop (n + 1)).map fun v => v.category).sum ≤ 8) (hC : C y (st.take (n + 1)).reverse h (.inl v) h') (k : xm_W C M Q (pc + 3) ls (v.toList ++ st.drop (n + 1)) h') : xm_W C M Q pc ls st h := xm_go he ⟨⟨a, ha, hk⟩, hl, hc, _, _, hC, k⟩
theorem xw_I4 {idx y n t a : Nat} {v : Option Value} {h' : xm_H} (he : xm_at M pc = some (.invokespecial idx, none, 4 :: y :: n :: t :: pl, cv)) (ha : st[n]? = some (.ref a)) (hk : (xm_k h a).1 = t) (hl : n + 1 ≤ st.length) (hc : ((st.drop (n + 1)).map fun v => v.category).sum ≤ 8) (hC : C y (st.take (n + 1)).reverse h (.inl v) h') (k : xm_W C M Q (pc + 3) ls (v.toList ++ st.drop (n + 1)) h') : xm_W C M Q pc ls st h := xm_go he ⟨⟨a, ha, hk⟩, hl, hc, _, _, hC, k⟩
theorem xw_I7 {idx y n t a : Nat} {v : Option Value} {h' : xm_H} (he : xm_at M pc = some (.invokespecial idx, none, 7 :: y :: n :: t :: pl, cv)) (ha : st[n]? = some (.ref a)) (hk : (xm_k h a).1 = t) (hl : n + 1 ≤ st.length) (hc : ((st.drop (n + 1)).map fun v => v.category).sum ≤ 8) (hC : C y (st.take (n + 1)).reverse h (.inl v) h') (k : xm_W C M Q (pc + 3) ls (v.toList ++ st.drop (n + 1)) h') : xm_W C M Q pc ls st h := xm_go he ⟨⟨a, ha, hk⟩, hl, hc, _, _, hC, k⟩
theorem xw_I8 {idx a : Nat} (he : xm_at M pc = some (.invokespecial idx, none, 8 :: pl, cv)) (hc : (r.map fun v => v.category).sum ≤ 8) (k : xm_W C M Q (pc + 3) ls r h) : xm_W C M Q pc ls (.ref a :: r) h := xm_go he ⟨hc, k⟩
/-- a callee that throws, and is not caught here -/
theorem xw_VX {idx y n t a : Nat} {x : Nat × Nat} {h' : xm_H} (he : xm_at M pc = some (.invokevirtual idx, none, 1 :: y :: n :: t :: pl, cv)) (ha : st[n]? = some (.ref a)) (hk : (xm_k h a).1 = t) (hl : n + 1 ≤ st.length) (hc : ((st.drop (n + 1)).map fun v => v.category).sum ≤ 8) (hC : C y (st.take (n + 1)).reverse h (.inr x) h') (hh : xm_hd M.2.1 pc x.1 = none) (k : Q (.inr x) h') : xm_W C M Q pc ls st h := by
  refine xm_go he ⟨⟨a, ha, hk⟩, hl, hc, _, _, hC, ?_⟩
  unfold xm_back
  dsimp only
  rw [hh]
  exact k
theorem xw_SX {idx y n : Nat} {x : Nat × Nat} {h' : xm_H} (he : xm_at M pc = some (.invokestatic idx, none, 0 :: y :: n :: pl, cv)) (hl : n ≤ st.length) (hc : ((st.drop n).map fun v => v.category).sum ≤ 8) (hC : C y (st.take n).reverse h (.inr x) h') (hh : xm_hd M.2.1 pc x.1 = none) (k : Q (.inr x) h') : xm_W C M Q pc ls st h := by
  refine xm_go he ⟨hl, hc, _, _, hC, ?_⟩
  unfold xm_back
  dsimp only
  rw [hh]
  exact k
/-- ... and is caught here -/
theorem xw_VH {idx y n t a p : Nat} {x : Nat × Nat} {h' : xm_H} (he : xm_at M pc = some (.invokevirtual idx, none, 1 :: y :: n :: t :: pl, cv)) (ha : st[n]? = some (.ref a)) (hk : (xm_k h a).1 = t) (hl : n + 1 ≤ st.length) (hc : ((st.drop (n + 1)).map fun v => v.category).sum ≤ 8) (hC : C y (st.take (n + 1)).reverse h (.inr x) h') (hh : xm_hd M.2.1 pc x.1 = some p) (k : xm_W C M Q p ls [.ref x.2] h') : xm_W C M Q pc ls st h := by
  refine xm_go he ⟨⟨a, ha, hk⟩, hl, hc, _, _, hC, ?_⟩
  unfold xm_back
  dsimp only
  rw [hh]
  exact k
/-- rows of ints, the index a number -/
theorem xw_iald {a n j : Nat} (he : xm_at M pc = some (.iaload, none, pl, cv)) (hk : xm_k h a = (100, n)) (hj : j < n) (hn : n < 2 ^ 31) (k : xm_W C M Q (pc + 1) ls (.int (xm_i h a j) :: r) h) : xm_W C M Q pc ls (.int (nI j) :: .ref a :: r) h := by
  refine xw_G he rfl ⟨by rw [hk], by rw [hk]; exact vp_in_nI hj hn⟩ ?_
  rw [nI_clamp (by omega)]
  exact k
theorem xw_iast {a n j : Nat} {x : Int32} (he : xm_at M pc = some (.iastore, none, pl, cv)) (hk : xm_k h a = (100, n)) (hj : j < n) (hn : n < 2 ^ 31) (ha : xK ≤ a) (k : xm_W C M Q (pc + 1) ls r (xm_si h a j x)) : xm_W C M Q pc ls (.int x :: .int (nI j) :: .ref a :: r) h := by
  refine xw_G he rfl ⟨by rw [hk], by rw [hk]; exact vp_in_nI hj hn, ha⟩ ?_
  rw [nI_clamp (by omega)]
  exact k
/-- a reference field -/
theorem xw_gr {idx a t f b : Nat} (he : xm_at M pc = some (.getfield idx, none, [t, f, 6], cv)) (hk : (xm_k h a).1 = t) (hr : xm_r h a f = some b) (k : xm_W C M Q (pc + 3) ls (.ref b :: r) h) : xm_W C M Q pc ls (.ref a :: r) h := by
  refine xw_G he rfl hk ?_
  show xm_W C M Q (pc + 3) ls (va_rf (xm_r h a f) :: r) h
  rw [hr]
  exact k
end Steps
