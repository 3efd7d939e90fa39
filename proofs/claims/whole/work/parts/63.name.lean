/-! write: names -/
theorem lN_t {n : Nat} (h : n < 2 ^ 62) : (lN n).toInt = (n : Int) := lg_ofNat_toInt (by omega)
theorem lN_div {a d : Nat} (ha : a < 2 ^ 62) (h0 : 0 < d) (hd : d < 2 ^ 62) : lN a / lN d = lN (a / d) := by
  have h1 : a / d ≤ a := Nat.div_le_self a d
  rw [← Int64.toInt_inj, Int64.toInt_div, lN_t ha, lN_t hd, lN_t (by omega), Int.tdiv_eq_ediv_of_nonneg (by omega), show (a : Int) / (d : Int) = ((a / d : Nat) : Int) from (Int.natCast_ediv a d).symm]
  generalize a / d = q at *
  rw [Int.bmod_def]
  split <;> omega
theorem lN_rem {a d : Nat} (ha : a < 2 ^ 62) (h0 : 0 < d) (hd : d < 2 ^ 62) : lN a - lN a / lN d * lN d = lN (a % d) := by
  have h1 : a / d * d ≤ a := Nat.div_mul_le_self a d
  rw [lN_div ha h0 hd, lN_mul, lN_sub h1]
  congr 1
  have := Nat.div_add_mod a d
  rw [Nat.mul_comm] at this
  omega
theorem lN_gt {a : Nat} {c : Nat} (ha : a < 2 ^ 62) (hc : c < 2 ^ 62) : (0 < lg_cmp (lN a) (lN c)) ↔ c < a := by
  rw [lg_cmp_gt, Int64.lt_iff_toInt_lt, lN_t ha, lN_t hc]
  omega
section Nam
variable {N : Nat} {h g : xm_H} {l w : List Nat}
theorem zPk_t {i x : Nat} (hx : w[i]? = some x) : zPk (w.take (i + 1)) = 32 * zPk (w.take i) + (x - 96) := by
  unfold zPk
  rw [List.take_succ, hx, List.foldl_append]
  rfl
theorem zPk_lt (hw : ∀ x ∈ w, 97 ≤ x ∧ x ≤ 122) : ∀ m, m ≤ w.length → zPk (w.take m) < 32 ^ m := by
  intro m
  induction m with
  | zero => intro _; exact Nat.one_pos
  | succ m ih =>
    intro hm
    have hlt : m < w.length := by omega
    have := ih (by omega)
    have hx := hw _ (List.getElem_mem hlt)
    rw [zPk_t (List.getElem?_eq_getElem hlt), Nat.pow_succ]
    omega
theorem zPk_pos (hw : ∀ x ∈ w, 97 ≤ x ∧ x ≤ 122) {m : Nat} (hm : m < w.length) : 1 ≤ zPk (w.take (m + 1)) := by
  have hx := hw _ (List.getElem_mem hm)
  rw [zPk_t (List.getElem?_eq_getElem hm)]
  omega
theorem zPk_d (hw : ∀ x ∈ w, 97 ≤ x ∧ x ≤ 122) : ∀ d, d ≤ w.length → zPk w / 32 ^ d = zPk (w.take (w.length - d)) := by
  intro d
  induction d with
  | zero => intro _; rw [Nat.pow_zero, Nat.div_one, Nat.sub_zero, List.take_length]
  | succ d ih =>
    intro hd
    have hlt : w.length - (d + 1) < w.length := by omega
    have hx := hw _ (List.getElem_mem hlt)
    rw [Nat.pow_succ, ← Nat.div_div_eq_div_mul, ih (by omega), show w.length - d = (w.length - (d + 1)) + 1 by omega, zPk_t (List.getElem?_eq_getElem hlt)]
    omega
theorem z32 {d : Nat} (hd : d ≤ 10) : 1 ≤ 32 ^ d ∧ 32 ^ d ≤ 2 ^ 50 := ⟨Nat.pow_pos (show 0 < 32 by decide), Nat.le_trans (Nat.pow_le_pow_right (show 32 > 0 by decide) hd) (by decide)⟩
theorem zs_putName (hN : 1000 ≤ N) (hL : zLet w) (hl : l.length + 10 ≤ 120) (hO : zOr l h) : ∃ g, f_X11_putName N (lN (zPk w)) h = some ((), g) ∧ zF zAo h g ∧ zOr (l ++ w) g := by
  obtain ⟨w1, w2, hw⟩ := hL
  have hb : zPk w < 2 ^ 51 := by
    have := zPk_lt hw w.length (Nat.le_refl _)
    rw [List.take_length] at this
    have := (z32 w2).2
    omega
  unfold f_X11_putName
  -- the first loop
  obtain ⟨m, ⟨c3, g⟩, hI, hE⟩ := zlpO (N := N) (F := fun n s => fun K => f_X11_putName_2 N (lN (zPk w)) K n s.1 s.2) (I := fun d s => s = (lN (32 ^ d), h)) (L := w.length - 1) (s := (1, h)) (by omega) rfl (by
    rintro m d s hd hs
    subst hs
    refine ⟨_, rfl, ?_⟩
    funext K
    show f_X11_putName_2B N (lN (zPk w)) K (f_X11_putName_2 N (lN (zPk w)) K m) (lN (32 ^ d)) h = f_X11_putName_2 N (lN (zPk w)) K m (lN (32 ^ (d + 1))) h
    have hp := z32 (show d ≤ 10 by omega)
    have hlt2 : zPk w / 32 ^ d ≤ zPk w := Nat.div_le_self _ _
    have hne : ¬ lN (32 ^ d) = 0 := fun z => by
      have := congrArg Int64.toInt z
      rw [lN_t (by omega)] at this
      have h0 : (0 : Int64).toInt = 0 := rfl
      omega
    have h31 : 31 < zPk w / 32 ^ d := by
      rw [zPk_d hw d (by omega)]
      have hlt : w.length - d - 2 < w.length := by omega
      have := zPk_pos hw hlt
      have hk : w.length - d - 1 < w.length := by omega
      have e := zPk_t (w := w) (List.getElem?_eq_getElem hk)
      rw [show w.length - d - 1 + 1 = w.length - d by omega] at e
      rw [show w.length - d - 2 + 1 = w.length - d - 1 by omega] at this
      omega
    unfold f_X11_putName_2B
    rw [if_pos hne, lN_div (by omega) (by omega) (by omega), show (31 : Int64) = lN 31 from rfl, if_pos ((lN_gt (by omega) (by omega)).mpr h31), show (32 : Int64) = lN 32 from rfl, lN_mul, show 32 * 32 ^ d = 32 ^ (d + 1) by rw [Nat.pow_succ]; omega])
  cases hI
  have hE2 : ∀ K, f_X11_putName_2 N (lN (zPk w)) K N (1 : Int64) h = K (lN (32 ^ (w.length - 1))) h := fun K => by
    refine (congrFun hE K).trans ?_
    show f_X11_putName_2B N (lN (zPk w)) K (f_X11_putName_2 N (lN (zPk w)) K m) (lN (32 ^ (w.length - 1))) h = _
    have hp := z32 (show w.length - 1 ≤ 10 by omega)
    have hlt2 : zPk w / 32 ^ (w.length - 1) ≤ zPk w := Nat.div_le_self _ _
    have hne : ¬ lN (32 ^ (w.length - 1)) = 0 := fun z => by
      have := congrArg Int64.toInt z
      rw [lN_t (by omega)] at this
      have h0 : (0 : Int64).toInt = 0 := rfl
      omega
    have h31 : ¬ 31 < zPk w / 32 ^ (w.length - 1) := by
      rw [zPk_d hw _ (by omega), show w.length - (w.length - 1) = 1 by omega]
      have := zPk_lt hw 1 (by omega)
      omega
    unfold f_X11_putName_2B
    rw [if_pos hne, lN_div (by omega) (by omega) (by omega), show (31 : Int64) = lN 31 from rfl, if_neg (fun z => h31 ((lN_gt (by omega) (by omega)).mp z))]
  rw [hE2]
  -- the second loop
  obtain ⟨m2, ⟨c3, g⟩, ⟨e1, e2, e3⟩, hE3⟩ := zlpO (N := N) (F := fun n s => f_X11_putName_21 N (lN (zPk w)) n s.1 s.2) (I := fun i s => s.1 = (if i = w.length then lN 0 else lN (32 ^ (w.length - 1 - i))) ∧ zF zAo h s.2 ∧ zOr (l ++ w.take i) s.2) (L := w.length) (s := (lN (32 ^ (w.length - 1)), h)) (by omega) ⟨by rw [if_neg (by omega)]; rfl, zF.rf, by rw [List.take_zero, List.append_nil]; exact hO⟩ (by
    rintro m2 i ⟨c3, g⟩ hi ⟨e1, e2, e3⟩
    dsimp only at e1 e2 e3 ⊢
    rw [if_neg (by omega)] at e1
    subst e1
    have hx := List.getElem?_eq_getElem hi
    have hx2 := hw _ (List.getElem_mem hi)
    have hp := z32 (show w.length - 1 - i ≤ 10 by omega)
    have hlt2 : zPk w / 32 ^ (w.length - 1 - i) ≤ zPk w := Nat.div_le_self _ _
    have hdig : zPk w / 32 ^ (w.length - 1 - i) % 32 = w[i] - 96 := by
      rw [zPk_d hw _ (by omega), show w.length - (w.length - 1 - i) = i + 1 by omega, zPk_t hx]
      omega
    obtain ⟨g', k1, k2, k3⟩ := zs_put (c := w[i]) (by rw [List.length_append, List.length_take]; omega) e3
    refine ⟨(_, g'), ⟨rfl, e2.tr k2, ?_⟩, ?_⟩
    · dsimp only
      rw [List.take_succ, hx]
      rw [List.append_assoc] at k3
      exact k3
    · have hne : ¬ lN (32 ^ (w.length - 1 - i)) = 0 := fun z => by
        have := congrArg Int64.toInt z
        rw [lN_t (by omega)] at this
        have h0 : (0 : Int64).toInt = 0 := rfl
        omega
      have hnx : lN (32 ^ (w.length - 1 - i)) / lN 32 = (if i + 1 = w.length then lN 0 else lN (32 ^ (w.length - 1 - (i + 1)))) := by
        rw [lN_div (by omega) (by omega) (by omega)]
        by_cases h1 : i + 1 = w.length
        · rw [if_pos h1, show w.length - 1 - i = 0 by omega]
        · rw [if_neg h1, show w.length - 1 - i = (w.length - 1 - (i + 1)) + 1 by omega, Nat.pow_succ, Nat.mul_div_cancel _ (by omega)]
      show f_X11_putName_21B N (lN (zPk w)) (f_X11_putName_21 N (lN (zPk w)) m2) (lN (32 ^ (w.length - 1 - i))) g = f_X11_putName_21 N (lN (zPk w)) m2 (if i + 1 = w.length then lN 0 else lN (32 ^ (w.length - 1 - (i + 1)))) g'
      unfold f_X11_putName_21B
      rw [show (0 : Int64) = lN 0 from rfl] at hne ⊢
      rw [if_pos ((lN_gt (by omega) (by omega)).mpr (by omega)), if_pos hne, lN_div (by omega) (by omega) (by omega), show (32 : Int64) = lN 32 from rfl, lN_rem (by omega) (by omega) (by omega), lN_i, hdig, show (96 : Int32) = nI 96 from rfl, nI_add, show w[i] - 96 + 96 = w[i] by omega, k1, xb_some, hnx])
  dsimp only at e1 e2 e3
  rw [if_pos rfl] at e1
  subst e1
  rw [List.take_length] at e3
  refine ⟨g, hE3.trans ?_, e2, e3⟩
  show f_X11_putName_21B N (lN (zPk w)) (f_X11_putName_21 N (lN (zPk w)) m2) (lN 0) g = _
  unfold f_X11_putName_21B
  rw [show (0 : Int64) = lN 0 from rfl, if_neg (fun z => absurd ((lN_gt (by omega) (by omega)).mp z) (by omega))]
end Nam
