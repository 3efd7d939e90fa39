/-! the floor that earns the most: both sides -/
def zq (S : zV) (x : Nat) : Nat := (zEf S x).toNatClampNeg
def zfc (T : zV) (j : Nat) : Nat := (T (3 + j)).toNatClampNeg
def zWf (S T : zV) (na k : Nat) (l : List Nat) (f : Nat) : List (Nat × Nat) := zFl (zAp T na) k (l.takeWhile fun c => !decide (zEf S c < nI f)) 0 []
def zEt (S T : zV) (l : List Nat) (f j p : Nat) : Nat := ((max f (if p + 1 < l.length then zq S (l.getD (p + 1) 0) else 0)) * zfc T j + 99) / 100
def zE (S T : zV) (na k : Nat) (l : List Nat) (f : Nat) : Nat := zsn (fun j => zEt S T l f j ((zWf S T na k l f).getD j (0, 0)).1) (zWf S T na k l f).length
section Best
variable {N ρ δ nc nt nf na n nv ne la nb bo no cap L : Nat} {xs : zV} {S T : zV} {h : xm_H} {x y z w : Int32} {l : List Nat} {k : Nat}
theorem zq_ok (hl : ∀ x ∈ l, ∃ q, q ≤ 999 ∧ 1 ≤ q ∧ zEf S x = nI q) {x : Nat} (hx : x ∈ l) : zEf S x = nI (zq S x) ∧ 1 ≤ zq S x ∧ zq S x ≤ 999 := by
  obtain ⟨q, q1, q2, q3⟩ := hl x hx
  unfold zq
  rw [q3, nI_clamp (by omega)]
  exact ⟨rfl, q2, q1⟩
theorem zfc_ok (hT : ∀ j, j < nf → zB 1 100 (T (3 + j))) {j : Nat} (hj : j < nf) : T (3 + j) = nI (zfc T j) ∧ 1 ≤ zfc T j ∧ zfc T j ≤ 100 := by
  obtain ⟨q, q1, q2, q3⟩ := hT j hj
  unfold zfc
  rw [q3, nI_clamp (by omega)]
  exact ⟨rfl, q1, q2⟩
theorem zEt_ok (hl : ∀ x ∈ l, ∃ q, q ≤ 999 ∧ 1 ≤ q ∧ zEf S x = nI q) (hT : ∀ j, j < nf → zB 1 100 (T (3 + j))) {f j p : Nat} (hf : f ≤ 1000) (hj : j < nf) : zPr (zEf S) T l (nI f) j p = nI (zEt S T l f j p) ∧ zEt S T l f j p ≤ 1001 := by
  obtain ⟨t1, t2, t3⟩ := zfc_ok hT hj
  have hx : (if p + 1 < l.length then zEf S (l.getD (p + 1) 0) else 0) = nI (if p + 1 < l.length then zq S (l.getD (p + 1) 0) else 0) ∧ (if p + 1 < l.length then zq S (l.getD (p + 1) 0) else 0) ≤ 999 := by
    by_cases h1 : p + 1 < l.length
    · rw [if_pos h1, if_pos h1]
      have hm : l.getD (p + 1) 0 ∈ l := by
        rw [List.getD_eq_getElem?_getD, List.getElem?_eq_getElem h1]
        exact List.getElem_mem h1
      obtain ⟨a, b, c⟩ := zq_ok hl hm
      exact ⟨a, c⟩
    · rw [if_neg h1, if_neg h1]
      exact ⟨rfl, by omega⟩
  unfold zPr zBs zEt
  rw [hx.1]
  generalize (if p + 1 < l.length then zq S (l.getD (p + 1) 0) else 0) = v at *
  have hmx : (if nI f < nI v then nI v else nI f) = nI (max f v) := by
    by_cases hlt : f < v
    · rw [if_pos (nI_lt hlt (by omega)), Nat.max_eq_right (by omega)]
    · rw [if_neg (nI_nlt (by omega) (by omega)), Nat.max_eq_left (by omega)]
  have hm0 : max f v ≤ 1000 := by omega
  have hmul : max f v * zfc T j ≤ 1000 * 100 := Nat.mul_le_mul hm0 t3
  rw [hmx, t1, pk_mul, show (99 : Int32) = nI 99 from rfl, nI_add, show (100 : Int32) = nI 100 from rfl, pk_div (by omega) (by omega) (by omega)]
  exact ⟨rfl, by omega⟩
theorem zWf_len (f : Nat) : (zWf S T na k l f).length ≤ k := zFl_len (by simp)
theorem zWf_pl {f j : Nat} {w : Nat × Nat} (hw : (zWf S T na k l f)[j]? = some w) : w.1 < (l.takeWhile fun c => !decide (zEf S c < nI f)).length := by
  obtain ⟨V, h1, h2⟩ := @zFl_pl (zAp T na) k (l.takeWhile fun c => !decide (zEf S c < nI f)) 0 []
  unfold zWf at hw
  rw [h1, List.nil_append] at hw
  have := h2 w (List.mem_of_getElem? hw)
  omega
/-- a row of prices adds up to the earnings -/
theorem zE_row (hl : ∀ x ∈ l, ∃ q, q ≤ 999 ∧ 1 ≤ q ∧ zEf S x = nI q) (hT : ∀ j, j < nf → zB 1 100 (T (3 + j))) (hk : k ≤ nf) (hnf : nf ≤ 4) {f : Nat} (hf : f ≤ 1000) {R : zV} (hR : ∀ j w, (zWf S T na k l f)[j]? = some w → R j = zPr (zEf S) T l (nI f) j w.1) : zsm R (zWf S T na k l f).length = nI (zE S T na k l f) ∧ zE S T na k l f ≤ 4004 := by
  have hlen := zWf_len (S := S) (T := T) (na := na) (k := k) (l := l) f
  constructor
  · refine zsm_n (fun j hj => ?_)
    have hw := List.getElem?_eq_getElem hj
    rw [hR j _ hw, (zEt_ok hl hT hf (by omega)).1]
    rw [List.getD_eq_getElem?_getD, hw]
    rfl
  · have h1 : zE S T na k l f ≤ (zWf S T na k l f).length * 1001 := zsn_bd (fun j hj => (zEt_ok hl hT hf (by omega)).2)
    have h2 : (zWf S T na k l f).length * 1001 ≤ 4 * 1001 := Nat.mul_le_mul_right _ (by omega)
    omega
theorem zE_H1 (hs : zSd (zEf S) l) (hl : ∀ x ∈ l, ∃ q, q ≤ 999 ∧ 1 ≤ q ∧ zEf S x = nI q) {f g : Nat} (hfg : f ≤ g) (hv : ∀ v ∈ l.map (zq S), f ≤ v → g ≤ v) (hg : g ≤ 1000) : zE S T na k l f ≤ zE S T na k l g := by
  have hW : zWf S T na k l f = zWf S T na k l g := by
    unfold zWf
    congr 1
    rw [ztw_filter hs, ztw_filter hs]
    apply List.filter_congr
    intro x hx
    obtain ⟨a, b, c⟩ := zq_ok hl hx
    have h2 := hv (zq S x) (List.mem_map.mpr ⟨x, hx, rfl⟩)
    rw [a]
    congr 1
    rw [decide_eq_decide, nI_ltI (by omega) (by omega), nI_ltI (by omega) (by omega)]
    omega
  unfold zE
  rw [hW]
  refine zsn_le (fun j hj => ?_)
  unfold zEt
  refine Nat.div_le_div_right (Nat.add_le_add_right (Nat.mul_le_mul_right _ ?_) _)
  omega
theorem zE_H0 (hs : zSd (zEf S) l) (hl : ∀ x ∈ l, ∃ q, q ≤ 999 ∧ 1 ≤ q ∧ zEf S x = nI q) {f : Nat} (hf : f ≤ 1000) (hv : ∀ v ∈ l.map (zq S), v < f) : zE S T na k l f = 0 := by
  have hW : zWf S T na k l f = [] := by
    unfold zWf
    rw [ztw_filter hs]
    have : l.filter (fun c => !decide (zEf S c < nI f)) = [] := by
      rw [List.filter_eq_nil_iff]
      intro x hx
      obtain ⟨a, b, c⟩ := zq_ok hl hx
      have h2 := hv (zq S x) (List.mem_map.mpr ⟨x, hx, rfl⟩)
      rw [a]
      simp [nI_lt h2 (show f < 2 ^ 31 by omega)]
    rw [this]
    rfl
  unfold zE
  rw [hW]
  rfl
theorem zsn_ge {g : Nat → Nat} : ∀ {n : Nat}, 0 < n → g 0 ≤ zsn g n := by
  intro n
  induction n with
  | zero => intro h; omega
  | succ n ih =>
    intro _
    by_cases hn : 0 < n
    · exact Nat.le_trans (ih hn) (Nat.le_add_right _ _)
    · have : n = 0 := by omega
      subst this
      show g 0 ≤ 0 + g 0
      omega
theorem zE_V (hs : zSd (zEf S) l) (hl : ∀ x ∈ l, ∃ q, q ≤ 999 ∧ 1 ≤ q ∧ zEf S x = nI q) (hT : ∀ j, j < nf → zB 1 100 (T (3 + j))) (hk1 : 1 ≤ k) (hk : k ≤ nf) {v : Nat} (hv : v ∈ l.map (zq S)) : v ≤ 999 ∧ 1 ≤ zE S T na k l v := by
  obtain ⟨x, hx, rfl⟩ := List.mem_map.mp hv
  obtain ⟨a, b, c⟩ := zq_ok hl hx
  refine ⟨c, ?_⟩
  have hm : x ∈ l.takeWhile (fun c => !decide (zEf S c < nI (zq S x))) := by
    rw [ztw_filter hs, List.mem_filter]
    refine ⟨hx, ?_⟩
    rw [← a]
    simp
  have hne : 0 < (zWf S T na k l (zq S x)).length := by
    unfold zWf
    cases ht : l.takeWhile (fun c => !decide (zEf S c < nI (zq S x))) with
    | nil =>
      rw [ht] at hm
      simp at hm
    | cons c r =>
      unfold zFl
      rw [if_pos (show ([] : List (Nat × Nat)).length < k from hk1), if_neg (by simp)]
      obtain ⟨V, h1, _⟩ := @zFl_pl (zAp T na) k r (0 + 1) ([] ++ [(0, c)])
      rw [h1]
      simp
  obtain ⟨t1, t2, t3⟩ := zfc_ok (T := T) hT (show 0 < nf by omega)
  refine Nat.le_trans ?_ (zsn_ge hne)
  show 1 ≤ zEt S T l (zq S x) 0 _
  unfold zEt
  generalize (if ((zWf S T na k l (zq S x)).getD 0 (0, 0)).fst + 1 < l.length then zq S (l.getD (((zWf S T na k l (zq S x)).getD 0 (0, 0)).fst + 1) 0) else 0) = q
  have h1 : 1 * 1 ≤ max (zq S x) q * zfc T 0 := Nat.mul_le_mul (by omega) t2
  omega
/-- what the class earns at a floor -/
theorem zc_earn {f : Nat} (hN : 1000 ≤ N) (hρ : xIsR ρ) (hRT : zRT ρ nc nf na T h) (hWT : ∀ j, j < nf → zB 1 100 (T (3 + j))) (hnc : nc ≤ 8) (hk : k ≤ nf) (hnf : nf ≤ 4) (hln : l.length ≤ 8) (hl : ∀ x ∈ l, x < nc) (hq : ∀ x ∈ l, ∃ q, q ≤ 999 ∧ 1 ≤ q ∧ zEf S x = nI q) (hct : xm_i h 182 6 = nI l.length) (hR : zRow (xm_i h 217) l) (he : ∀ x ∈ l, xm_i h 216 x = zEf S x) (hf : f ≤ 1000) : ∃ h', f_X2_earningsAt N ρ (nI k) (nI f) h = some (nI (zE S T na k l f), h') ∧ zF (fun a q => a = 218 ∨ a = 219 ∨ (a = 182 ∧ q = 9)) h h' := by
  obtain ⟨h2, f1, f2, f3⟩ := zc_fill (N := N) (fl := nI f) hN hρ hRT hnc hk hnf hln hl hct hR he
  refine ⟨h2, ?_, f2⟩
  have hW : zFl (zAp T na) k (l.takeWhile fun c => !decide (zEf S c < nI f)) 0 [] = zWf S T na k l f := rfl
  rw [hW] at f3
  have hlen := zWf_len (S := S) (T := T) (na := na) (k := k) (l := l) f
  have hsum := (zE_row (na := na) hq hWT hk hnf hf (R := xm_i h2 219) f3.2.2).1
  unfold f_X2_earningsAt
  rw [f1, xb_some, ← hsum]
  refine zlp0 (N := N) (F := fun n s => f_X2_earningsAt_11 N ρ n s.1 s.2.1 s.2.2) (I := fun i s => s = (zsm (xm_i h2 219) i, nI i, h2)) (L := (zWf S T na k l f).length) (s := (0, 0, h2)) (by omega) rfl ?_ ?_
  · intro m i s hi hs
    subst hs
    refine ⟨_, rfl, ?_⟩
    show f_X2_earningsAt_11B N ρ (f_X2_earningsAt_11 N ρ m) (zsm (xm_i h2 219) i) (nI i) h2 = f_X2_earningsAt_11 N ρ m (zsm (xm_i h2 219) i + xm_i h2 219 i) (nI (i + 1)) h2
    unfold f_X2_earningsAt_11B
    rw [f3.1, if_pos (nI_lt hi (by omega)), if_pos (zb_in (by omega) (by decide)), nI_clamp (by omega), nI_1]
  · intro m s hs
    subst hs
    show f_X2_earningsAt_11B N ρ (f_X2_earningsAt_11 N ρ m) (zsm (xm_i h2 219) _) (nI (zWf S T na k l f).length) h2 = _
    unfold f_X2_earningsAt_11B
    rw [f3.1, if_neg (zlt_irr _)]
theorem zF.rk {h h' : xm_H} (e : zF (fun a q => a = 218 ∨ a = 219 ∨ (a = 182 ∧ q = 9)) h h') : xm_i h' 182 6 = xm_i h 182 6 ∧ xm_i h' 217 = xm_i h 217 ∧ xm_i h' 216 = xm_i h 216 := ⟨e.i (by omega), e.row (fun k z => by omega), e.row (fun k z => by omega)⟩
/-- the halving, in the class -/
theorem zc_half {M : Nat} {h0 : xm_H} (hN : 1000 ≤ N) (hρ : xIsR ρ) (hRT : zRT ρ nc nf na T h0) (hWT : ∀ j, j < nf → zB 1 100 (T (3 + j))) (hnc : nc ≤ 8) (hk : k ≤ nf) (hnf : nf ≤ 4) (hln : l.length ≤ 8) (hl : ∀ x ∈ l, x < nc) (hq : ∀ x ∈ l, ∃ q, q ≤ 999 ∧ 1 ≤ q ∧ zEf S x = nI q) (hct : xm_i h0 182 6 = nI l.length) (hR : zRow (xm_i h0 217) l) (he : ∀ x ∈ l, xm_i h0 216 x = zEf S x) (hM : M ≤ 5000) : ∀ (i n lo hi : Nat) (h : xm_H), i ≤ 12 → 12 - i < n → lo ≤ 1000 → hi ≤ 1000 → zF (fun a q => a = 218 ∨ a = 219 ∨ (a = 182 ∧ q = 9)) h0 h → ∃ h', f_X2_leastFloorEarning_9 N ρ (nI M) (nI k) n (nI lo) (nI hi) (nI i) h = some (nI (zHv (zE S T na k l) M (12 - i) lo hi), h') ∧ zF (fun a q => a = 218 ∨ a = 219 ∨ (a = 182 ∧ q = 9)) h0 h' := by
  have hr164 : ρ = 164 ∨ ρ = 183 := hρ
  intro i n
  induction n generalizing i with
  | zero => intro lo hi h h1 h2; omega
  | succ n ih =>
    intro lo hi h hi12 hin hlo hhi hF
    show ∃ h', f_X2_leastFloorEarning_9B N ρ (nI M) (nI k) (f_X2_leastFloorEarning_9 N ρ (nI M) (nI k) n) (nI lo) (nI hi) (nI i) h = _ ∧ _
    unfold f_X2_leastFloorEarning_9B
    by_cases h12 : i < 12
    · rw [if_pos (show nI i < 12 from nI_lt (b := 12) h12 (by decide)), show 12 - i = (12 - (i + 1)) + 1 by omega]
      unfold zHv
      by_cases hlh : lo < hi
      · rw [if_pos (nI_lt hlh (by omega)), if_pos hlh]
        have hmid : (nI lo + nI hi) / 2 = nI ((lo + hi) / 2) := by rw [nI_add, show (2 : Int32) = nI 2 from rfl, pk_div (by omega) (by omega) (by omega)]
        rw [hmid]
        obtain ⟨r1, r2, r3⟩ := hF.rk
        obtain ⟨h2, g1, g2⟩ := zc_earn (N := N) (ρ := ρ) (nc := nc) (nf := nf) (na := na) (S := S) (T := T) (h := h) (l := l) (k := k) (f := (lo + hi) / 2) hN hρ (zRT.fr hρ hF (fun a k z w => by omega) hnc hRT) hWT hnc hk hnf hln hl hq (r1.trans hct) (by rw [r2]; exact hR) (by rw [r3]; exact he) (by omega)
        rw [g1, xb_some, nI_1, nI_1]
        have hEb : zE S T na k l ((lo + hi) / 2) ≤ 4004 := by
          refine (zE_row (na := na) hq hWT hk hnf (f := (lo + hi) / 2) (by omega) (R := fun j => zPr (zEf S) T l (nI ((lo + hi) / 2)) j ((zWf S T na k l ((lo + hi) / 2)).getD j (0, 0)).1) ?_).2
          intro j w hw
          rw [List.getD_eq_getElem?_getD, hw]
          rfl
        by_cases hm : zE S T na k l ((lo + hi) / 2) < M
        · rw [if_pos (nI_lt hm (by omega)), if_pos hm]
          exact ih (i + 1) ((lo + hi) / 2 + 1) hi h2 (by omega) (by omega) (by omega) hhi (hF.tr g2)
        · rw [if_neg (nI_nlt (by omega) (by omega)), if_neg hm]
          exact ih (i + 1) lo ((lo + hi) / 2) h2 (by omega) (by omega) hlo (by omega) (hF.tr g2)
      · rw [if_neg (nI_nlt (by omega) (by omega)), if_neg hlh]
        exact ⟨h, rfl, hF⟩
    · rw [if_neg (show ¬ nI i < 12 from nI_nlt (b := 12) (by omega) (by omega)), show 12 - i = 0 by omega]
      exact ⟨h, rfl, hF⟩
end Best
