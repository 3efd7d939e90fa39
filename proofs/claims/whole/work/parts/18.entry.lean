/-! printed by wip/gen/gen18.py: what holds at the law's entry -/
theorem xtys_inv {aC : Nat → ClassId} {k : Nat} {q : ClassId × FieldType} (h : (xtys aC)[k]? = some q) : ∃ ty, xat[k]? = some ty ∧ q = (aC k, ty) := by
  match k, h with
  | 0, h => cases h; exact ⟨_, rfl, rfl⟩
  | 1, h => cases h; exact ⟨_, rfl, rfl⟩
  | 2, h => cases h; exact ⟨_, rfl, rfl⟩
  | 3, h => cases h; exact ⟨_, rfl, rfl⟩
  | 4, h => cases h; exact ⟨_, rfl, rfl⟩
  | 5, h => cases h; exact ⟨_, rfl, rfl⟩
  | 6, h => cases h; exact ⟨_, rfl, rfl⟩
  | 7, h => cases h; exact ⟨_, rfl, rfl⟩
  | 8, h => cases h; exact ⟨_, rfl, rfl⟩
  | n + 9, h => simp at h
theorem xm_arrP {args : Array Value} {s : State} {ty : FieldType} (hno : ∀ C, ty ≠ .object C) (h : (Cond.arrayClass ty).before args s = true) : ∃ c, ArrOfT s c ty ∧ va_RA s c ty := by
  obtain ⟨c, k, comp, h1, h2, h3⟩ := Cond.arrayClass_spec h
  refine ⟨c, fun n z => ⟨fun k h => (by cases h), k, h2, comp, h3⟩, ?_⟩
  cases ty <;> first | exact h1 | exact absurd rfl (hno _)
theorem xm_arrO {args : Array Value} {s : State} {C : String} (h : (Cond.arrayOver (.object C)).before args s = true) : ∃ c, ArrOfT s c (.object C) ∧ va_RA s c (.object C) := by
  obtain ⟨comp, c, k, h1, h2, h3, h4, h5⟩ := Cond.arrayOver_spec h
  exact ⟨c, fun n z => ⟨fun k h => (by cases h), k, h3, comp, h4⟩, k, comp, h3, h4, h1, h5⟩
set_option maxHeartbeats 4000000 in
set_option maxRecDepth 100000 in
theorem xm_start {s : State} {b L : Nat} {xs : Nat → Int32} (hts : ∀ w ∈ lw_tbl, w.before #[Value.ref b] s = true) (hX : va_X b L xs s s.heap) (hbl : b < s.heap.size) (hgv : (Jvm.Cond.and given_1 narrow_1).before #[Value.ref b] s = true) : ∃ (D : va_G) (aC : Nat → ClassId) (ct : xm_K), ct.2 = xhc L xs ∧ xm_KU xSL xZL xQL D aC ct s.heap s ∧ xm_R D aC ct s.heap (xhc L xs) s.heap ∧ xm_ad s.heap.size ct 0 = b := by
  have hf := flat_of_before _ hgv
  have hfl : ∀ {i : Nat} {w : Cond}, xfl[i]? = some w → w.before #[Value.ref b] s = true := fun h => hf _ (List.mem_of_getElem? h)
  have ht : ∀ w ∈ tables_1, w.before #[Value.ref b] s = true := fun w h => hts w (List.mem_append_right _ h)
  have hg : ∀ w ∈ xgd, w.before #[Value.ref b] s = true := fun w h => xxt_ok hts w (List.mem_filter.mp h).1
  have hA : ∀ a : Nat, a < s.heap.size → ¬ (fun a => s.heap.size ≤ a) a := fun a h => Nat.not_le.mpr h
  obtain ⟨ad, had⟩ := Classical.axiomOfChoice (xs_all ht hf)
  obtain ⟨t1, e1, T1⟩ := xd_o hf
  obtain ⟨t2, e2, T2⟩ := xd_t hf
  have hfo : va_Zq "jdk/internal/util/Preconditions" "SIOOBE_FORMATTER" "Ljava/util/function/BiFunction;" (fun a => s.heap.size ≤ a) s s.heap := va_Zqof (ht _ (xt3 (i := 202) rfl)) (ht _ (xt1 (i := 23) rfl)) (hfl (i := 7) (by decide +kernel)) hA
  obtain ⟨fF, hfF⟩ : ∃ fF, va_Z "jdk/internal/util/Preconditions" "SIOOBE_FORMATTER" "Ljava/util/function/BiFunction;" .null (fun a => s.heap.size ≤ a) s s.heap ∨ va_Z "jdk/internal/util/Preconditions" "SIOOBE_FORMATTER" "Ljava/util/function/BiFunction;" (.ref fF) (fun a => s.heap.size ≤ a) s s.heap := by
    rcases hfo with h | ⟨t, h⟩
    · exact ⟨0, Or.inl h⟩
    · exact ⟨t, Or.inr h⟩
  obtain ⟨ca, hca⟩ : ∃ ca : Nat → Nat, ca = fun i => if i = 0 then b else if i = 1 then t1 else if i = 2 then t2 else if i = 159 then fF else if i % 2 = 1 then (ad ((i - 3) / 2)).1 else (ad ((i - 4) / 2)).2 := ⟨_, rfl⟩
  have c0 : ca 0 = b := by rw [hca]; rfl
  have c1 : ca 1 = t1 := by rw [hca]; rfl
  have c2 : ca 2 = t2 := by rw [hca]; rfl
  have c3 : ca 159 = fF := by rw [hca]; rfl
  have c4 : ∀ n, n < 47 → ca (3 + 2 * n) = (ad n).1 := fun n hn => by
    rw [hca]
    dsimp only
    rw [if_neg (by omega), if_neg (by omega), if_neg (by omega), if_neg (by omega), if_pos (by omega), show (3 + 2 * n - 3) / 2 = n by omega]
  have c5 : ∀ n, n < 47 → ca (4 + 2 * n) = (ad n).2 := fun n hn => by
    rw [hca]
    dsimp only
    rw [if_neg (by omega), if_neg (by omega), if_neg (by omega), if_neg (by omega), if_neg (by omega), show (4 + 2 * n - 4) / 2 = n by omega]
  clear hca
  have hcl : ∀ k : Nat, ∃ c : ClassId × (Nat → Nat), ∀ q, xcl[k]? = some q → u_Kn s q.1 q.2.1 q.2.2 c.1 c.2 := by
    intro k
    cases hq : xcl[k]? with
    | none => exact ⟨(default, fun _ => 0), fun q h => by cases h⟩
    | some q =>
      by_cases hk : k < 14
      · obtain ⟨ty, -, o1, -, -, o2, -⟩ := xO k q hq hk
        obtain ⟨c, iS, h⟩ := u_known hg o1 (hg _ o2)
        exact ⟨(c, iS), fun q2 h2 => by cases h2; exact h⟩
      · have key : ∀ nm n, Cond.instantiable nm n ∈ tables_1 → ∃ c : ClassId × (Nat → Nat), u_Kn s nm xTe 0 c.1 c.2 := fun nm n hin => by
          obtain ⟨c, iS, h⟩ := u_known (C := nm) (T := xTe) (N := 0) (n := n) hts (fun w hw => by simp [u_ws] at hw) (ht _ hin)
          exact ⟨(c, iS), h⟩
        have hk17 : k < 17 := (List.getElem?_eq_some_iff.mp hq).1
        rcases (show k = 14 ∨ k = 15 ∨ k = 16 by omega) with rfl | rfl | rfl
        · cases hq; obtain ⟨c, h⟩ := key _ _ (xt4 (i := 139) rfl); exact ⟨c, fun q2 h2 => by cases h2; exact h⟩
        · cases hq; obtain ⟨c, h⟩ := key _ _ (xt3 (i := 77) rfl); exact ⟨c, fun q2 h2 => by cases h2; exact h⟩
        · cases hq; obtain ⟨c, h⟩ := key _ _ (xt5 (i := 151) rfl); exact ⟨c, fun q2 h2 => by cases h2; exact h⟩
  obtain ⟨dd, hdd⟩ := Classical.axiomOfChoice hcl
  have har : ∀ j : Nat, ∃ c : ClassId, ∀ ty, xat[j]? = some ty → ArrOfT s c ty ∧ va_RA s c ty := by
    intro j
    match j with
    | 0 => obtain ⟨c, h⟩ := xm_arrP (ty := .int) (fun C h => by cases h) (ht _ (xt1 (i := 102) rfl)); exact ⟨c, fun ty hty => by cases hty; exact h⟩
    | 1 => obtain ⟨c, h⟩ := xm_arrP (ty := .boolean) (fun C h => by cases h) (ht _ (xt2 (i := 51) rfl)); exact ⟨c, fun ty hty => by cases hty; exact h⟩
    | 2 => obtain ⟨c, h⟩ := xm_arrP (ty := .byte) (fun C h => by cases h) (ht _ (xt1 (i := 103) rfl)); exact ⟨c, fun ty hty => by cases hty; exact h⟩
    | 3 => obtain ⟨c, h⟩ := xm_arrP (ty := .char) (fun C h => by cases h) (ht _ (xt1 (i := 78) rfl)); exact ⟨c, fun ty hty => by cases hty; exact h⟩
    | 4 => obtain ⟨c, h⟩ := xm_arrP (ty := .long) (fun C h => by cases h) (ht _ (xt7 (i := 209) rfl)); exact ⟨c, fun ty hty => by cases hty; exact h⟩
    | 5 => obtain ⟨c, h⟩ := xm_arrP (ty := .double) (fun C h => by cases h) (ht _ (xt9 (i := 217) rfl)); exact ⟨c, fun ty hty => by cases hty; exact h⟩
    | 6 => obtain ⟨c, h⟩ := xm_arrO (ht _ (xt1 (i := 105) rfl)); exact ⟨c, fun ty hty => by cases hty; exact h⟩
    | 7 => obtain ⟨c, h⟩ := xm_arrO (ht _ (xt1 (i := 86) rfl)); exact ⟨c, fun ty hty => by cases hty; exact h⟩
    | 8 => obtain ⟨c, h⟩ := xm_arrO (ht _ (xt2 (i := 166) rfl)); exact ⟨c, fun ty hty => by cases hty; exact h⟩
    | n + 9 => exact ⟨default, fun ty hty => by simp at hty⟩
  obtain ⟨aC, haC⟩ := Classical.axiomOfChoice har
  have adc : ∀ i, i < xK → xm_ad s.heap.size (ca, xhc L xs) i = ca i := fun i hi => by unfold xm_ad; rw [if_pos hi]
  refine ⟨(fun k => (dd k).1, fun k => (dd k).2), aC, (ca, xhc L xs), rfl, ⟨⟨fun k q hq => hdd k q hq, fun k q hq => ?_⟩, fun q hq => ?_, fun q hq => ?_, ?_, ?_, fun j C hj => ?_, fun w hw => ?_, fun x hx y hy hxy => ?_, fun q hq => ?_, fun i hi hk => ?_⟩, ⟨rfl, Nat.le_refl _, fun q _ => rfl, fun i hi => ⟨rfl, fun τ j => rfl⟩, fun i hi => ?_, fun i hi hk => ?_⟩, ?_⟩
  · obtain ⟨ty, h1, rfl⟩ := xtys_inv hq
    exact haC k ty h1
  · obtain ⟨n, hn⟩ := List.getElem?_of_mem hq
    have hnl : n < 47 := by have := (List.getElem?_eq_some_iff.mp hn).1; rw [xSL_len] at this; exact this
    have hc := xSL_cell n hnl q hn
    obtain ⟨bs, hbs⟩ : ∃ bs, xstb[n]? = some bs := ⟨_, List.getElem?_eq_getElem (by rw [xstb_len]; exact hnl)⟩
    have := (had n q bs hn hbs).1
    rw [hc, adc _ (by show 3 + 2 * n < 160; omega), c4 n hnl]
    exact this
  · have z1 : va_Z "java/lang/String" "COMPACT_STRINGS" "Z" (.int 1) (fun a => s.heap.size ≤ a) s s.heap := va_Zof (ht _ (xt2 (i := 189) rfl)) (ht _ (xt1 (i := 14) rfl)) (va_eqt (hfl (i := 4) (by decide +kernel))) hA
    have z2 : va_Z "java/lang/Integer" "DigitOnes" "[B" (.ref (xm_ad s.heap.size (ca, xhc L xs) 1)) (fun a => s.heap.size ≤ a) s s.heap := by rw [adc 1 (by decide), c1]; exact va_Zof (ht _ (xt6 (i := 189) rfl)) (ht _ (xt1 (i := 27) rfl)) e1 hA
    have z3 : va_Z "java/lang/Integer" "DigitTens" "[B" (.ref (xm_ad s.heap.size (ca, xhc L xs) 2)) (fun a => s.heap.size ≤ a) s s.heap := by rw [adc 2 (by decide), c2]; exact va_Zof (ht _ (xt6 (i := 191) rfl)) (ht _ (xt1 (i := 27) rfl)) e2 hA
    simp only [xZL, List.mem_cons, List.not_mem_nil, or_false] at hq
    rcases hq with rfl | rfl | rfl | rfl <;> first | exact z1 | exact z2 | exact z3
  · exact vx_Zqof (ht _ (xt3 (i := 103) rfl)) (ht _ (xt1 (i := 17) rfl)) (hfl (i := 5) (by decide +kernel)) hA
  · exact vx_Zqof (ht _ (xt3 (i := 105) rfl)) (ht _ (xt1 (i := 17) rfl)) (hfl (i := 6) (by decide +kernel)) hA
  · have k1 : ∀ C, C = "AdMarketplace$Campaign" ∨ C = "AdMarketplace$Tag" ∨ C = "AdMarketplace$Standing" → va_AO C s := fun C hC => by
      rcases hC with rfl | rfl | rfl
      · exact va_AO.of (ht _ (xt1 (i := 105) rfl))
      · exact va_AO.of (ht _ (xt1 (i := 86) rfl))
      · exact va_AO.of (ht _ (xt2 (i := 166) rfl))
    have hj9 : j < 9 := (List.getElem?_eq_some_iff.mp hj).1
    rcases (show j = 0 ∨ j = 1 ∨ j = 2 ∨ j = 3 ∨ j = 4 ∨ j = 5 ∨ j = 6 ∨ j = 7 ∨ j = 8 by omega) with rfl | rfl | rfl | rfl | rfl | rfl | rfl | rfl | rfl <;> cases hj
    · exact k1 _ (Or.inl rfl)
    · exact k1 _ (Or.inr (Or.inl rfl))
    · exact k1 _ (Or.inr (Or.inr rfl))
  · obtain ⟨w1, w2⟩ := List.mem_filter.mp hw
    exact va_Nw.of (xm_isN_on w2) (hts w w1)
  · simp only [xec, List.mem_cons, List.not_mem_nil, or_false] at hx hy
    rcases hx with rfl | rfl | rfl <;> rcases hy with rfl | rfl | rfl
    · exact absurd rfl hxy
    · exact va_Nc.of (hfl (i := 231) (by decide +kernel))
    · exact va_Nc.of (hfl (i := 266) (by decide +kernel))
    · exact va_Nc.of (hfl (i := 248) (by decide +kernel))
    · exact absurd rfl hxy
    · exact va_Nc.of (hfl (i := 264) (by decide +kernel))
    · exact va_Nc.of (hfl (i := 250) (by decide +kernel))
    · exact va_Nc.of (hfl (i := 232) (by decide +kernel))
    · exact absurd rfl hxy
  · have z : va_Z "jdk/internal/util/Preconditions" "SIOOBE_FORMATTER" "Ljava/util/function/BiFunction;" .null (fun a => s.heap.size ≤ a) s s.heap ∨ va_Z "jdk/internal/util/Preconditions" "SIOOBE_FORMATTER" "Ljava/util/function/BiFunction;" (.ref (xm_ad s.heap.size (ca, xhc L xs) 159)) (fun a => s.heap.size ≤ a) s s.heap := by rw [adc 159 (by decide), c3]; exact hfF
    simp only [xQL, List.mem_cons, List.not_mem_nil, or_false] at hq
    rcases hq with rfl <;> exact z
  · have hi' : i < 160 := hi
    rcases (show i = 0 ∨ i = 1 ∨ i = 2 ∨ (∃ n, n < 47 ∧ i = 3 + 2 * n) ∨ (∃ n, n < 47 ∧ i = 4 + 2 * n) ∨ 97 ≤ i by
      by_cases h3 : i < 3
      · omega
      · by_cases hE : i < 97
        · by_cases hm : i % 2 = 1
          · exact Or.inr (Or.inr (Or.inr (Or.inl ⟨(i - 3) / 2, by omega, by omega⟩)))
          · exact Or.inr (Or.inr (Or.inr (Or.inr (Or.inl ⟨(i - 4) / 2, by omega, by omega⟩))))
        · omega) with rfl | rfl | rfl | ⟨n, hn, rfl⟩ | ⟨n, hn, rfl⟩ | hE
    · refine ⟨fun h => absurd h (Nat.not_lt.mpr (Nat.le_of_ble_eq_true rfl)), fun _ => ⟨.int, rfl, ?_⟩⟩
      obtain ⟨scr, x1, x2, x3, x4, x5⟩ := hX
      show va_T .int (ca 0) L _ _ s s.heap
      rw [c0]
      exact ⟨scr, x1, x2, x3, by rw [x4]; exact Nat.le_refl _, by rw [x4], x5, Nat.not_le.mpr hbl⟩
    · refine ⟨fun h => absurd h (Nat.not_lt.mpr (Nat.le_of_ble_eq_true rfl)), fun _ => ⟨.byte, rfl, ?_⟩⟩
      show va_T .byte (ca 1) 100 _ _ s s.heap
      rw [c1]
      exact T1
    · refine ⟨fun h => absurd h (Nat.not_lt.mpr (Nat.le_of_ble_eq_true rfl)), fun _ => ⟨.byte, rfl, ?_⟩⟩
      show va_T .byte (ca 2) 100 _ _ s s.heap
      rw [c2]
      exact T2
    · have hk9 : xm_k (xhc L xs) (3 + 2 * n) = (12, 0) := by
        show xhk L (3 + 2 * n) = _
        unfold xhk
        rw [if_neg (by omega), if_neg (by omega), if_pos (by omega), if_pos (by omega)]
      obtain ⟨r, hr⟩ : ∃ r, xSL[n]? = some r := ⟨_, List.getElem?_eq_getElem (by rw [xSL_len]; exact hn)⟩
      obtain ⟨bs, hbs⟩ : ∃ bs, xstb[n]? = some bs := ⟨_, List.getElem?_eq_getElem (by rw [xstb_len]; exact hn)⟩
      obtain ⟨-, f1, f2, f3, f4⟩ := had n r bs hr hbs
      dsimp only
      rw [hk9]
      refine ⟨fun _ => ⟨_, rfl, by rw [c4 n hn]; exact f1, fun k hk => ?_⟩, fun h => absurd h (by decide)⟩
      rw [c4 n hn]
      have hk2 : k < 2 := hk
      rcases (show k = 0 ∨ k = 1 by omega) with rfl | rfl
      · have e9 : xm_cv (xm_ad s.heap.size (ca, xhc L xs)) (xm_get (xm_tc (xm_fty 12 0)) (xhc L xs) (3 + 2 * n) 0) = .ref (ad n).2 := by
          show xm_cv _ (va_rf (xhr (3 + 2 * n) 0)) = _
          unfold xhr
          rw [if_pos ⟨by omega, by omega, by omega, rfl⟩]
          show Value.ref (xm_ad _ _ _) = _
          rw [adc _ (by show 3 + 2 * n + 1 < 160; omega), show 3 + 2 * n + 1 = 4 + 2 * n by omega, c5 n hn]
        rw [e9]
        exact f3
      · have e9 : xm_cv (xm_ad s.heap.size (ca, xhc L xs)) (xm_get (xm_tc (xm_fty 12 1)) (xhc L xs) (3 + 2 * n) 1) = .int 0 := by
          show Value.int (xhi xs (3 + 2 * n) 1) = _
          unfold xhi
          rw [if_neg (by omega), if_neg (by omega), if_neg (by omega), if_pos (by omega)]
        rw [e9]
        exact f2
    · obtain ⟨r, hr⟩ : ∃ r, xSL[n]? = some r := ⟨_, List.getElem?_eq_getElem (by rw [xSL_len]; exact hn)⟩
      obtain ⟨bs, hbs⟩ : ∃ bs, xstb[n]? = some bs := ⟨_, List.getElem?_eq_getElem (by rw [xstb_len]; exact hn)⟩
      have hgd : xstb.getD n [] = bs := by rw [List.getD_eq_getElem?_getD, hbs]; rfl
      have hk9 : xm_k (xhc L xs) (4 + 2 * n) = (102, bs.length) := by
        show xhk L (4 + 2 * n) = _
        unfold xhk
        rw [if_neg (by omega), if_neg (by omega), if_pos (by omega), if_neg (by omega), show (4 + 2 * n - 4) / 2 = n by omega, hgd]
      obtain ⟨-, f1, f2, f3, f4⟩ := had n r bs hr hbs
      dsimp only
      rw [hk9]
      refine ⟨fun h => absurd h (Nat.not_lt.mpr (Nat.le_of_ble_eq_true rfl)), fun _ => ⟨.byte, rfl, ?_⟩⟩
      rw [c5 n hn]
      have e9 : (fun j => xm_cv (xm_ad s.heap.size (ca, xhc L xs)) (xm_get (xm_et 102) (xhc L xs) (4 + 2 * n) j)) = fun j => .int (bs.getD j 0) := by
        funext j
        show Value.int (xhi xs (4 + 2 * n) j) = _
        unfold xhi
        rw [if_neg (by omega), if_neg (by omega), if_neg (by omega), if_neg (by omega), show (4 + 2 * n - 4) / 2 = n by omega, hgd]
      dsimp only
      rw [e9]
      exact f4
    · exfalso
      have hk9 : xm_k (xhc L xs) i = (998, 0) := by
        show xhk L i = _
        unfold xhk
        rw [if_neg (by omega), if_neg (by omega), if_neg (by omega), if_pos hi']
      dsimp only at hk
      rw [hk9] at hk
      exact absurd hk (by decide)
  · have hi' : 160 ≤ i := hi
    show (xhk L i).1 = 999
    unfold xhk
    rw [if_neg (by omega), if_neg (by omega), if_neg (by omega), if_neg (by omega)]
  · exfalso
    have hi' : 160 ≤ i := hi
    have hk9 : (xhk L i).1 < 200 := hk
    unfold xhk at hk9
    rw [if_neg (by omega), if_neg (by omega), if_neg (by omega), if_neg (by omega)] at hk9
    exact absurd hk9 (by decide)
  · rw [adc 0 (by decide), c0]
