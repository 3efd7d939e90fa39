/-! load: a statement, all statements -/
def xR (r : Option (Int32 × xm_H)) : Prop := ∀ v h, r = some (v, h) → v = 0 ∨ v = 1
theorem xR.z {h : xm_H} : xR (some ((0 : Int32), h)) := fun v g e => by cases e; exact Or.inl rfl
theorem xR.o {h : xm_H} : xR (some ((1 : Int32), h)) := fun v g e => by cases e; exact Or.inr rfl
theorem xR.no : xR none := fun v g e => by cases e
theorem xR.g {v : Int32} {h : xm_H} : xR (if v = 0 ∨ v = 1 then some (v, h) else none) := fun u g e => by
  by_cases hv : v = 0 ∨ v = 1
  · rw [if_pos hv] at e
    cases e
    exact hv
  · rw [if_neg hv] at e
    cases e
theorem xR.ite {P : Prop} [Decidable P] {a c : Option (Int32 × xm_H)} (ha : xR a) (hc : xR c) : xR (if P then a else c) := by
  by_cases hp : P
  · rw [if_pos hp]
    exact ha
  · rw [if_neg hp]
    exact hc
theorem xR.b {α : Type} {r : Option (α × xm_H)} {k : α → xm_H → Option (Int32 × xm_H)} (hk : ∀ v h, xR (k v h)) : xR (xb r k) := by
  cases r with
  | none => exact xR.no
  | some p => exact hk p.1 p.2
theorem xR.l {α : Type} {a : α} {k : α → Option (Int32 × xm_H)} (hk : ∀ v, xR (k v)) : xR (xl a k) := hk a
theorem xR_tick (N : Nat) (i : Int32) (h : xm_H) : xR (f_X11_ticks N i h) := by
  unfold f_X11_ticks
  try simp only [xl]
  repeat (first | exact xR.g | exact xR.z | exact xR.o | exact xR.no | (refine xR.b (fun _ _ => ?_)) | (refine xR.ite ?_ ?_))
theorem xR_tag (N : Nat) (h : xm_H) : xR (f_X11_tagStatement N h) := by
  unfold f_X11_tagStatement
  try simp only [xl]
  repeat (first | exact xR.g | exact xR.z | exact xR.o | exact xR.no | (refine xR.b (fun _ _ => ?_)) | (refine xR.ite ?_ ?_))
theorem xR_cmp (N : Nat) (h : xm_H) : xR (f_X11_campaignStatement N h) := by
  unfold f_X11_campaignStatement
  try simp only [xl]
  repeat (first | exact xR.g | exact xR.z | exact xR.o | exact xR.no | (refine xR.b (fun _ _ => ?_)) | (refine xR.ite ?_ ?_))
theorem xR_pace (N : Nat) (h : xm_H) : xR (f_X11_paceStatement N h) := by
  unfold f_X11_paceStatement
  try simp only [xl]
  repeat (first | exact xR.g | exact xR.z | exact xR.o | exact xR.no | (refine xR.b (fun _ _ => ?_)) | (refine xR.ite ?_ ?_))
theorem xR_apt (N : Nat) (h : xm_H) : xR (f_X11_apartStatement N h) := by
  unfold f_X11_apartStatement
  try simp only [xl]
  repeat (first | exact xR.g | exact xR.z | exact xR.o | exact xR.no | (refine xR.b (fun _ _ => ?_)) | (refine xR.ite ?_ ?_))
theorem xR_sl34 (N : Nat) {k1 k2 : xm_H → Option (Int32 × xm_H)} (h1 : ∀ h, xR (k1 h)) (h2 : ∀ h, xR (k2 h)) : ∀ n h, xR (f_X11_slotsStatement_34 N k1 k2 n h) := by
  intro n
  induction n with
  | zero => intro h; exact xR.no
  | succ n ih =>
    intro h
    show xR (f_X11_slotsStatement_34B N k1 k2 (f_X11_slotsStatement_34 N k1 k2 n) h)
    unfold f_X11_slotsStatement_34B
    try simp only [xl]
    repeat (first | exact ih _ | exact h1 _ | exact h2 _ | exact xR.g | exact xR.z | exact xR.o | exact xR.no | (refine xR.b (fun _ _ => ?_)) | (refine xR.ite ?_ ?_))
theorem xR_slots (N : Nat) (h : xm_H) : xR (f_X11_slotsStatement N h) := by
  unfold f_X11_slotsStatement
  try simp only [xl]
  repeat (first | exact xR_sl34 N (fun _ => xR.b (fun _ _ => xR.g)) (fun _ => xR.b (fun _ _ => xR.g)) _ _ | exact xR.g | exact xR.z | exact xR.o | exact xR.no | (refine xR.b (fun _ _ => ?_)) | (refine xR.ite ?_ ?_))
section Sta
variable {N L δ nc nt nf na k x s e κ : Nat} {xs : zV} {W V : Nat → List Nat} {b : Nat → Nat} {h0 k0 hc hr : xm_H} {rc rr : Option (Int32 × xm_H)}
theorem zCl.gd (h : xR rr) : zCl N (xb rr fun v h => if v = 0 ∨ v = 1 then some (v, h) else none) = zCl N rr := by
  cases rr with
  | none => rfl
  | some p =>
    obtain ⟨v, g⟩ := p
    rw [xb_some, if_pos (h v g rfl)]
theorem zSR.gd (h : zSR L xs δ h0 k0 b x s rc rr) : zSR L xs δ h0 k0 b x s (xb rc fun v h => if v = 0 ∨ v = 1 then some (v, h) else none) rr := by
  rcases h with ⟨hc', hr', a1, a2⟩ | ⟨hc', hr', s', e', κ', nc, nt, nf, na, W, V, a1, a2⟩
  · exact Or.inl ⟨hc', hr', by rw [a1, xb_some, if_pos (Or.inl rfl)], a2⟩
  · exact Or.inr ⟨hc', hr', s', e', κ', nc, nt, nf, na, W, V, by rw [a1, xb_some, if_pos (Or.inr rfl)], a2⟩
theorem zL_stmt (hN : 1000 ≤ N) (hP : zPT b x s e κ hc hr) (hE : zEq hc hr) (hV : zV0 L xs δ h0 k0 nc nt nf na W V (nc + nt) hc hr) : zSR L xs δ h0 k0 b x s (f_X5_statement N δ hc) (zCl N (f_X11_statement N hr)) := by
  have h14 := hV.k14
  have hse : κ = 1 → s < e := fun hk => by
    obtain ⟨f1, f2, f3, f4, f5, f6, f7, f8⟩ := hP.1
    exact f6 (by omega)
  obtain ⟨x1, y1⟩ := zL_word (q := 3) (q' := 32) hN hP hV (by omega) (by omega) zKa.2.1
  obtain ⟨x2, y2⟩ := zL_word (q := 4) (q' := 33) hN hP hV (by omega) (by omega) zKa.2.2.1
  obtain ⟨x3, y3⟩ := zL_word (q := 5) (q' := 34) hN hP hV (by omega) (by omega) zKa.2.2.2.1
  obtain ⟨x4, y4⟩ := zL_word (q := 6) (q' := 35) hN hP hV (by omega) (by omega) zKa.2.2.2.2.1
  obtain ⟨x5, y5⟩ := zL_word (q := 8) (q' := 37) hN hP hV (by omega) (by omega) zKa.2.2.2.2.2.1
  obtain ⟨x6, y6⟩ := zL_word (q := 9) (q' := 38) hN hP hV (by omega) (by omega) zKa.2.2.2.2.2.2.1
  obtain ⟨x7, y7⟩ := zL_word (q := 13) (q' := 42) hN hP hV (by omega) (by omega) zKa.2.2.2.2.2.2.2.2.2.2
  have x1 : f_X9_spells N 9 hc = _ := x1
  have x2 : f_X9_spells N 11 hc = _ := x2
  have x3 : f_X9_spells N 13 hc = _ := x3
  have x4 : f_X9_spells N 15 hc = _ := x4
  have x5 : f_X9_spells N 19 hc = _ := x5
  have x6 : f_X9_spells N 21 hc = _ := x6
  have x7 : f_X9_spells N 29 hc = _ := x7
  have y1 : f_X11_isWord N 67 hr = _ := y1
  have y2 : f_X11_isWord N 69 hr = _ := y2
  have y3 : f_X11_isWord N 71 hr = _ := y3
  have y4 : f_X11_isWord N 73 hr = _ := y4
  have y5 : f_X11_isWord N 77 hr = _ := y5
  have y6 : f_X11_isWord N 79 hr = _ := y6
  have y7 : f_X11_isWord N 87 hr = _ := y7
  unfold f_X5_statement f_X11_statement
  rw [x1, y1, xb_some, xb_some]
  by_cases w1 : κ = 1 ∧ zKw 3 = zWd b s (e - s)
  · rw [if_neg (fun z => zi_d.mp z w1), if_neg (fun z => zi_d.mp z w1), zCl.gd (xR_tick _ _ _)]
    exact (zL_day hN hP hE (hse w1.1) hV).gd
  rw [if_pos (zi_d.mpr w1), if_pos (zi_d.mpr w1), x2, y2, xb_some, xb_some]
  by_cases w2 : κ = 1 ∧ zKw 4 = zWd b s (e - s)
  · rw [if_neg (fun z => zi_d.mp z w2), if_neg (fun z => zi_d.mp z w2), zCl.gd (xR_tick _ _ _)]
    exact (zL_att hN hP hE (hse w2.1) hV).gd
  rw [if_pos (zi_d.mpr w2), if_pos (zi_d.mpr w2), x3, y3, xb_some, xb_some]
  by_cases w3 : κ = 1 ∧ zKw 5 = zWd b s (e - s)
  · rw [if_neg (fun z => zi_d.mp z w3), if_neg (fun z => zi_d.mp z w3), zCl.gd (xR_slots _ _)]
    exact (zL_slots hN hP hE (hse w3.1) hV).gd
  rw [if_pos (zi_d.mpr w3), if_pos (zi_d.mpr w3), x4, y4, xb_some, xb_some]
  by_cases w4 : κ = 1 ∧ zKw 6 = zWd b s (e - s)
  · rw [if_neg (fun z => zi_d.mp z w4), if_neg (fun z => zi_d.mp z w4), zCl.gd (xR_tag _ _)]
    exact (zL_tag hN w4.1 hP hE (hse w4.1) hV).gd
  rw [if_pos (zi_d.mpr w4), if_pos (zi_d.mpr w4), x5, y5, xb_some, xb_some]
  by_cases w5 : κ = 1 ∧ zKw 8 = zWd b s (e - s)
  · rw [if_neg (fun z => zi_d.mp z w5), if_neg (fun z => zi_d.mp z w5), zCl.gd (xR_cmp _ _)]
    exact (zL_cmp hN w5.1 hP hE (hse w5.1) hV).gd
  rw [if_pos (zi_d.mpr w5), if_pos (zi_d.mpr w5), x6, y6, xb_some, xb_some]
  by_cases w6 : κ = 1 ∧ zKw 9 = zWd b s (e - s)
  · rw [if_neg (fun z => zi_d.mp z w6), if_neg (fun z => zi_d.mp z w6), zCl.gd (xR_pace _ _)]
    exact (zL_pace hN hP hE (hse w6.1) hV).gd
  rw [if_pos (zi_d.mpr w6), if_pos (zi_d.mpr w6), x7, y7, xb_some, xb_some]
  by_cases w7 : κ = 1 ∧ zKw 13 = zWd b s (e - s)
  · rw [if_neg (fun z => zi_d.mp z w7), if_neg (fun z => zi_d.mp z w7), zCl.gd (xR_apt _ _)]
    exact (zL_apt hN w7.1 hP hE (hse w7.1) hV).gd
  rw [if_pos (zi_d.mpr w7), if_pos (zi_d.mpr w7)]
  obtain ⟨hc', hr', a1, a2, a3, a4, a5⟩ := zL_unex hP
  unfold zCl
  rw [a1, a2, xb_some, xb_some, if_pos (Or.inl rfl), if_pos (Or.inl rfl), xb_some, if_pos rfl]
  exact zSR.bad (by omega) hV ⟨hc', hr', rfl, rfl, a3, a4, a5⟩
theorem zCl_rec {h' : xm_H} {K rec : Int32 → xm_H → Option (Int32 × xm_H)} {u : Int32} (hu : u = 0 ∨ u = 1) (e : zCl N (f_X11_statement N hr) = some (u, h')) : (xb (f_X11_statement N hr) fun v3 h4 => (if v3 = 0 then (rec (0 : Int32) h4) else (xb (f_X11_closed N h4) fun v7 h8 => (if v7 = 0 then (rec (0 : Int32) h8) else (rec (1 : Int32) h8))))) = rec u h' := by
  unfold zCl at e
  cases hst : f_X11_statement N hr with
  | none =>
    rw [hst] at e
    cases e
  | some p =>
    obtain ⟨v, g⟩ := p
    rw [hst, xb_some] at e
    rw [xb_some]
    by_cases hv : v = 0
    · rw [if_pos hv] at e ⊢
      cases e
      rfl
    · rw [if_neg hv] at e ⊢
      rw [e, xb_some]
      rcases hu with rfl | rfl
      · rw [if_pos rfl]
      · rw [if_neg (by decide)]
theorem zL_read (hN : 1000 ≤ N) : ∀ (d i n n' s e κ nc nt nf na : Nat) (W V : Nat → List Nat) (hc hr : xm_H), x ≤ s + d → i ≤ s → d < n → d + 1 < n' → zPT b x s e κ hc hr → zEq hc hr → zV0 L xs δ h0 k0 nc nt nf na W V (nc + nt) hc hr → (∃ hc' hr', f_X5_read_27 N δ (nI x) n (nI i) hc = some (0, hc') ∧ (∀ K, f_X11_load_68 N K n' 1 hr = K 0 hr') ∧ zEnd L xs δ h0 k0 hc' hr') ∨ ∃ hc' hr' nc nt nf na W V, f_X5_read_27 N δ (nI x) n (nI i) hc = some (1, hc') ∧ (∀ K, f_X11_load_68 N K n' 1 hr = K 1 hr') ∧ zEq hc' hr' ∧ zV0 L xs δ h0 k0 nc nt nf na W V (nc + nt) hc' hr' := by
  intro d
  induction d with
  | zero =>
    intro i n n' s e κ nc nt nf na W V hc hr hd hi hn hn' hP hE hV
    obtain ⟨m, rfl⟩ : ∃ m, n = m + 1 := ⟨n - 1, by omega⟩
    obtain ⟨m', rfl⟩ : ∃ m', n' = m' + 1 := ⟨n' - 1, by omega⟩
    have f := hP.1
    have hκ : κ = 0 := f.2.2.2.2.1.mpr (by have := f.1; have := f.2.1; omega)
    refine Or.inr ⟨hc, hr, nc, nt, nf, na, W, V, ?_, fun K => ?_, hE, hV⟩
    · show f_X5_read_27B N δ (nI x) (f_X5_read_27 N δ (nI x) m) (nI i) hc = _
      unfold f_X5_read_27B
      rw [hP.2.1.2.2.2.1, if_pos (show nI κ = (0 : Int32) by rw [hκ]; rfl), ite_self]
    · show f_X11_load_68B N K (f_X11_load_68 N K m') 1 hr = _
      unfold f_X11_load_68B
      rw [if_neg (by decide), hP.2.2.2.2.2.2.1, if_pos ((zRr_1 f.2.2.2.1).2.2.2.2.mpr hκ)]
  | succ d ih =>
    intro i n n' s e κ nc nt nf na W V hc hr hd hi hn hn' hP hE hV
    obtain ⟨m, rfl⟩ : ∃ m, n = m + 1 := ⟨n - 1, by omega⟩
    obtain ⟨m', rfl⟩ : ∃ m', n' = m' + 1 := ⟨n' - 1, by omega⟩
    have f := hP.1
    have h600 := f.2.2.1
    have hsx : s ≤ x := by
      have := f.1
      have := f.2.1
      omega
    by_cases hκ : κ = 0
    · refine Or.inr ⟨hc, hr, nc, nt, nf, na, W, V, ?_, fun K => ?_, hE, hV⟩
      · show f_X5_read_27B N δ (nI x) (f_X5_read_27 N δ (nI x) m) (nI i) hc = _
        unfold f_X5_read_27B
        rw [hP.2.1.2.2.2.1, if_pos (show nI κ = (0 : Int32) by rw [hκ]; rfl), ite_self]
      · show f_X11_load_68B N K (f_X11_load_68 N K m') 1 hr = _
        unfold f_X11_load_68B
        rw [if_neg (by decide), hP.2.2.2.2.2.2.1, if_pos ((zRr_1 f.2.2.2.1).2.2.2.2.mpr hκ)]
    · have hsx2 : s < x := by
        have : s ≠ x := fun z => hκ (f.2.2.2.2.1.mpr z)
        omega
      have ec : f_X5_read_27 N δ (nI x) (m + 1) (nI i) hc = xb (f_X5_statement N δ hc) fun v3 h4 => (if v3 = 0 then (some ((0 : Int32), h4)) else (f_X5_read_27 N δ (nI x) m (nI (i + 1)) h4)) := by
        show f_X5_read_27B N δ (nI x) (f_X5_read_27 N δ (nI x) m) (nI i) hc = _
        unfold f_X5_read_27B
        rw [if_pos (nI_lt (by omega) (by omega)), hP.2.1.2.2.2.1, if_neg (show ¬ nI κ = (0 : Int32) from nI_ne0 (by omega) (by have := f.2.2.2.1; omega)), nI_1]
      have er : ∀ K u h', (u = 0 ∨ u = 1) → zCl N (f_X11_statement N hr) = some (u, h') → f_X11_load_68 N K (m' + 1) 1 hr = f_X11_load_68 N K m' u h' := fun K u h' hu e => by
        show f_X11_load_68B N K (f_X11_load_68 N K m') 1 hr = _
        unfold f_X11_load_68B
        rw [if_neg (by decide), hP.2.2.2.2.2.2.1, if_neg (fun z => hκ ((zRr_1 f.2.2.2.1).2.2.2.2.mp z))]
        exact zCl_rec (K := K) hu e
      rcases zL_stmt hN hP hE hV with ⟨hc', hr', a1, a2, a3⟩ | ⟨hc', hr', s', e', κ', nc', nt', nf', na', W', V', a1, a2, P', E', a5, V''⟩
      · refine Or.inl ⟨hc', hr', ?_, fun K => ?_, a3⟩
        · rw [ec, a1, xb_some, if_pos rfl]
        · rw [er K 0 hr' (Or.inl rfl) a2]
          obtain ⟨q, rfl⟩ : ∃ q, m' = q + 1 := ⟨m' - 1, by omega⟩
          show f_X11_load_68B N K (f_X11_load_68 N K q) 0 hr' = _
          unfold f_X11_load_68B
          rw [if_pos rfl]
      · rcases ih (i + 1) m m' s' e' κ' nc' nt' nf' na' W' V' hc' hr' (by omega) (by omega) (by omega) (by omega) P' E' V'' with ⟨hc2, hr2, b1, b2, b3⟩ | ⟨hc2, hr2, nc2, nt2, nf2, na2, W2, V2, b1, b2, b3, b4⟩
        · exact Or.inl ⟨hc2, hr2, by rw [ec, a1, xb_some, if_neg (by decide)]; exact b1, fun K => by rw [er K 1 hr' (Or.inr rfl) a2]; exact b2 K, b3⟩
        · exact Or.inr ⟨hc2, hr2, nc2, nt2, nf2, na2, W2, V2, by rw [ec, a1, xb_some, if_neg (by decide)]; exact b1, fun K => by rw [er K 1 hr' (Or.inr rfl) a2]; exact b2 K, b3, b4⟩
end Sta
