/-! load: words -/
theorem lN_inj {a c : Nat} (ha : a < 2 ^ 62) (hc : c < 2 ^ 62) (h : lN a = lN c) : a = c := by
  have := congrArg Int64.toInt h
  rw [lN_t ha, lN_t hc] at this
  omega
theorem zPk_inj : ∀ (n : Nat) (w v : List Nat), w.length = n → (∀ x ∈ w, 97 ≤ x ∧ x ≤ 122) → (∀ x ∈ v, 97 ≤ x ∧ x ≤ 122) → zPk w = zPk v → w = v := by
  have sn : ∀ (l : List Nat) (y : Nat), zPk (l ++ [y]) = 32 * zPk l + (y - 96) := fun l y => by
    unfold zPk
    rw [List.foldl_append]
    rfl
  intro n
  induction n with
  | zero =>
    intro w v hw h1 h2 he
    have hw0 : w = [] := List.length_eq_zero_iff.mp hw
    subst hw0
    rcases List.eq_nil_or_concat v with hv | ⟨l, y, hv⟩
    · exact hv.symm
    · exfalso
      rw [List.concat_eq_append] at hv
      subst hv
      rw [sn] at he
      have := h2 y (by simp)
      have h0 : zPk [] = 0 := rfl
      omega
  | succ n ih =>
    intro w v hw h1 h2 he
    rcases List.eq_nil_or_concat w with hv | ⟨l, y, hv⟩
    · subst hv
      simp at hw
    · rw [List.concat_eq_append] at hv
      subst hv
      have hy := h1 y (by simp)
      rcases List.eq_nil_or_concat v with hv | ⟨l2, y2, hv⟩
      · subst hv
        rw [sn] at he
        have h0 : zPk [] = 0 := rfl
        omega
      · rw [List.concat_eq_append] at hv
        subst hv
        have hy2 := h2 y2 (by simp)
        rw [sn, sn] at he
        have e1 : zPk l = zPk l2 := by omega
        have e2 : y = y2 := by omega
        rw [List.length_append] at hw
        have := ih l l2 (by simpa using hw) (fun x hx => h1 x (by simp [hx])) (fun x hx => h2 x (by simp [hx])) e1
        rw [this, e2]
section Wd
variable {N x p s e κ c i a a2 : Nat} {b : Nat → Nat} {w : List Nat} {h g : xm_H}
theorem zPk_b (hw : zLet w) : zPk w < 2 ^ 51 := by
  have := zPk_lt hw.2.2 w.length (Nat.le_refl _)
  rw [List.take_length] at this
  have := (z32 hw.2.1).2
  omega
theorem zWd_eq {k j : Nat} (hk : w.length = k) (hR : zRun (fun i => w[i]? = some (b (s + i))) k 0 j) : (w = zWd b s k) ↔ j = k := by
  obtain ⟨r1, r2, r3, r4⟩ := hR
  constructor
  · intro hw
    rcases Nat.lt_or_ge j k with z | z
    · exact absurd (by rw [hw]; exact zWd_get z) (r4 z)
    · omega
  · intro hj
    apply List.ext_getElem?
    intro i
    rcases Nat.lt_or_ge i k with z | z
    · rw [zWd_get z]
      exact r3 i (by omega) (by omega)
    · rw [List.getElem?_eq_none (by omega), List.getElem?_eq_none (by rw [zWd_len]; omega)]
theorem zc_spells (hN : 1000 ≤ N) (hf : zTf b x s e κ) (hT : zTc b x s e κ h) (hS : zStr h a a2 w) (hw : ∀ x ∈ w, x < 256) (hl : w.length ≤ 100) : f_X9_spells N a h = some (zi (decide (κ = 1 ∧ w = zWd b s (e - s))), h) := by
  obtain ⟨f1, f2, f3, f4, f5, f6, f7, f8⟩ := hf
  obtain ⟨t1, t2, t3, t4, t5, t6⟩ := hT
  unfold f_X9_spells
  rw [t4]
  by_cases hk : κ = 1
  · rw [if_pos (show nI κ = (1 : Int32) by rw [hk]; rfl), if_pos (by rw [hS.2.2.1]), zs_len hS (by omega), xb_some, t3, t5, pk_sub (by omega)]
    by_cases he : w.length = e - s
    · rw [if_pos (by rw [he])]
      obtain ⟨j, hj⟩ := zRun_ex (P := fun i => w[i]? = some (b (s + i))) (x := e - s) (e - s) 0 (by omega)
      have hq := zWd_eq he hj
      obtain ⟨r1, r2, r3, r4⟩ := hj
      refine zlp0 (N := N) (F := fun n t => f_X9_spells_28 N a n t.1 t.2) (I := fun i t => t = (nI i, h)) (L := j) (s := (0, h)) (by omega) rfl ?_ ?_
      · intro m i t hi ht
        subst ht
        refine ⟨(nI (i + 1), h), rfl, ?_⟩
        show f_X9_spells_28B N a (f_X9_spells_28 N a m) (nI i) h = f_X9_spells_28 N a m (nI (i + 1)) h
        unfold f_X9_spells_28B
        have hx := r3 i (by omega) hi
        have hb := t1 (s + i) (by omega)
        rw [if_pos (by rw [hS.2.2.1]), zs_len hS (by omega), xb_some, if_pos (nI_lt (by omega) (by omega)), if_pos (by rw [hS.2.2.1]), zs_chr hS (by omega) hx (by omega), xb_some, t5, nI_add, if_pos (zb_in (by omega) (by decide)), nI_clamp (by omega), hb.1, if_pos rfl, nI_1]
      · intro m t ht
        subst ht
        show f_X9_spells_28B N a (f_X9_spells_28 N a m) (nI j) h = _
        unfold f_X9_spells_28B
        rw [if_pos (by rw [hS.2.2.1]), zs_len hS (by omega), xb_some]
        by_cases hjl : j = e - s
        · rw [if_neg (nI_nlt (by omega) (by omega)), decide_eq_true ⟨hk, hq.mpr hjl⟩]
          rfl
        · have hjw : j < w.length := by omega
          have hx := List.getElem?_eq_getElem hjw
          have hb := t1 (s + j) (by omega)
          have hx2 := hw _ (List.getElem_mem hjw)
          have hne : w[j] ≠ b (s + j) := fun z => r4 (by omega) (by show w[j]? = _; rw [hx, z])
          rw [if_pos (nI_lt (by omega) (by omega)), if_pos (by rw [hS.2.2.1]), zs_chr hS (by omega) hx hx2, xb_some, t5, nI_add, if_pos (zb_in (by omega) (by decide)), nI_clamp (by omega), hb.1, if_neg (fun z => hne ((nI_eq (by omega) (by omega)).mp z)), decide_eq_false (fun z => hjl (hq.mp z.2))]
          rfl
    · rw [if_neg (fun z => he ((nI_eq (by omega) (by omega)).mp z)), decide_eq_false (fun z => he (by rw [z.2, zWd_len]))]
      rfl
  · rw [if_neg (show ¬ nI κ = (1 : Int32) from fun z => hk ((nI_eq (b := 1) (by omega) (by omega)).mp z)), decide_eq_false (fun z => hk z.1)]
    rfl
theorem zRr_1 (hk : κ ≤ 4) : (nI (zRr κ) = 2 ↔ κ = 1) ∧ (nI (zRr κ) = 3 ↔ κ = 2) ∧ (nI (zRr κ) = 4 ↔ κ = 3) ∧ (nI (zRr κ) = 1 ↔ κ = 4) ∧ (nI (zRr κ) = 0 ↔ κ = 0) := by
  rcases (show κ = 0 ∨ κ = 1 ∨ κ = 2 ∨ κ = 3 ∨ κ = 4 by omega) with rfl | rfl | rfl | rfl | rfl <;> decide
theorem zs_isWord (hN : 1000 ≤ N) (hf : zTf b x s e κ) (hT : zTr b x s e κ h) (hS : zStr h a a2 w) (hw : ∀ x ∈ w, x < 256) (hl : w.length ≤ 100) : f_X11_isWord N a h = some (zi (decide (κ = 1 ∧ w = zWd b s (e - s))), h) := by
  obtain ⟨f1, f2, f3, f4, f5, f6, f7, f8⟩ := hf
  obtain ⟨t1, t2, t3, t4, t5, t6, t7⟩ := hT
  unfold f_X11_isWord
  rw [t5]
  by_cases hk : κ = 1
  · rw [if_pos ((zRr_1 f4).1.mpr hk), if_pos (by rw [hS.2.2.1]), zs_len hS (by omega), xb_some, t3, t4, pk_sub (by omega)]
    by_cases he : w.length = e - s
    · rw [if_pos (by rw [he])]
      obtain ⟨j, hj⟩ := zRun_ex (P := fun i => w[i]? = some (b (s + i))) (x := e - s) (e - s) 0 (by omega)
      have hq := zWd_eq he hj
      obtain ⟨r1, r2, r3, r4⟩ := hj
      refine zlp0 (N := N) (F := fun n t => f_X11_isWord_28 N a n t.1 t.2) (I := fun i t => t = (nI i, h)) (L := j) (s := (0, h)) (by omega) rfl ?_ ?_
      · intro m i t hi ht
        subst ht
        refine ⟨(nI (i + 1), h), rfl, ?_⟩
        show f_X11_isWord_28B N a (f_X11_isWord_28 N a m) (nI i) h = f_X11_isWord_28 N a m (nI (i + 1)) h
        unfold f_X11_isWord_28B
        have hx := r3 i (by omega) hi
        have hb := t1 (s + i) (by omega)
        rw [if_pos (by rw [hS.2.2.1]), zs_len hS (by omega), xb_some, if_pos (nI_lt (by omega) (by omega)), t3, nI_add, if_pos (zb_in (by omega) (by decide)), if_pos (by rw [hS.2.2.1]), zs_chr hS (by omega) hx (by omega), xb_some, nI_clamp (by omega), hb.1, if_pos rfl, nI_1]
      · intro m t ht
        subst ht
        show f_X11_isWord_28B N a (f_X11_isWord_28 N a m) (nI j) h = _
        unfold f_X11_isWord_28B
        rw [if_pos (by rw [hS.2.2.1]), zs_len hS (by omega), xb_some]
        by_cases hjl : j = e - s
        · rw [if_neg (nI_nlt (by omega) (by omega)), decide_eq_true ⟨hk, hq.mpr hjl⟩]
          rfl
        · have hjw : j < w.length := by omega
          have hx := List.getElem?_eq_getElem hjw
          have hb := t1 (s + j) (by omega)
          have hx2 := hw _ (List.getElem_mem hjw)
          have hne : w[j] ≠ b (s + j) := fun z => r4 (by omega) (by show w[j]? = _; rw [hx, z])
          rw [if_pos (nI_lt (by omega) (by omega)), t3, nI_add, if_pos (zb_in (by omega) (by decide)), if_pos (by rw [hS.2.2.1]), zs_chr hS (by omega) hx hx2, xb_some, nI_clamp (by omega), hb.1, if_neg (fun z => hne ((nI_eq (by omega) (by omega)).mp z).symm), decide_eq_false (fun z => hjl (hq.mp z.2))]
          rfl
    · rw [if_neg (fun z => he ((nI_eq (by omega) (by omega)).mp z).symm), decide_eq_false (fun z => he (by rw [z.2, zWd_len]))]
      rfl
  · rw [if_neg (fun z => hk ((zRr_1 f4).1.mp z)), decide_eq_false (fun z => hk z.1)]
    rfl
end Wd
