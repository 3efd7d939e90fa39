/-! the reference's methods that read, and its auction -/
theorem zx_0 (a : Nat) : nI a + 0 = nI (a + 0) := nI_add a 0
theorem zn1 {A B : Prop} (h : ¬ A) : ¬ (A ∧ B) := fun z => h z.1
theorem zn2 {A B : Prop} (h : ¬ B) : ¬ (A ∧ B) := fun z => h z.2
theorem zb_wlt (a b : Int32) : a.toInt64 < b.toInt64 ↔ a < b := by rw [Int64.lt_iff_toInt_lt, Int32.lt_iff_toInt_lt, Int32.toInt_toInt64, Int32.toInt_toInt64]
def zbt (x a b : Int32) : Int32 := if x < a ∨ b < x then 0 else 1
theorem zbt_b (x a b : Int32) : zbt x a b = 0 ∨ zbt x a b = 1 := by
  unfold zbt
  split
  · exact Or.inl rfl
  · exact Or.inr rfl
theorem zbt_1 {x a b : Int32} (h1 : ¬ x < a) (h2 : ¬ b < x) : zbt x a b = 1 := if_neg (fun z => z.elim h1 h2)
theorem zbt_0 {x a b : Int32} (h : x < a ∨ b < x) : zbt x a b = 0 := if_pos h
theorem zs_btw (x a b : Int32) (h : xm_H) : f_X11_between x.toInt64 a.toInt64 b.toInt64 h = some (zbt x a b, h) := by
  unfold f_X11_between zbt
  by_cases h1 : x < a
  · rw [if_pos ((lg_cmp_lt _ _).mpr ((zb_wlt _ _).mpr h1)), if_pos (Or.inl h1)]
  · rw [if_neg (fun z => h1 ((zb_wlt _ _).mp ((lg_cmp_lt _ _).mp z)))]
    by_cases h2 : b < x
    · rw [if_pos ((lg_cmp_gt _ _).mpr ((zb_wlt _ _).mpr h2)), if_pos (Or.inr h2)]
    · rw [if_neg (fun z => h2 ((zb_wlt _ _).mp ((lg_cmp_gt _ _).mp z))), if_neg (fun z => z.elim h1 h2)]
theorem zs_isCampaign (x : Int32) (h : xm_H) : f_X11_isCampaign x h = some (zbt x 0 (xm_i h 308 14 - 1), h) := by
  unfold f_X11_isCampaign
  rw [show (0 : Int64) = (0 : Int32).toInt64 from rfl, zs_btw, xb_some]
  exact if_pos (zbt_b _ _ _)
theorem zs_isTag (x : Int32) (h : xm_H) : f_X11_isTag x h = some (zbt x 0 (xm_i h 308 7 - 1), h) := by
  unfold f_X11_isTag
  rw [show (0 : Int64) = (0 : Int32).toInt64 from rfl, zs_btw, xb_some]
  exact if_pos (zbt_b _ _ _)
theorem zs_areSlots (x : Int32) (h : xm_H) : f_X11_areSlots x h = some (zbt x 1 (xm_i h 308 2), h) := by
  unfold f_X11_areSlots
  rw [show (1 : Int64) = (1 : Int32).toInt64 from rfl, zs_btw, xb_some]
  exact if_pos (zbt_b _ _ _)
theorem zs_isUser (x : Int32) (h : xm_H) : f_X11_isUser x h = some (zbt x 0 15, h) := by
  unfold f_X11_isUser
  rw [show (0 : Int64) = (0 : Int32).toInt64 from rfl, show (15 : Int64) = (15 : Int32).toInt64 from rfl, zs_btw, xb_some]
  exact if_pos (zbt_b _ _ _)
theorem zs_good0 (h : xm_H) : f_X11_good 0 h = some (0, xm_si h 302 4 1) := rfl
theorem zs_good1 (h : xm_H) : f_X11_good 1 h = some (1, xm_si h 302 4 0) := rfl
theorem zs_good_0 (x : Int32) (h : xm_H) : f_X11_good_ 0 x h = some (0, xm_si h 302 4 1) := rfl
theorem zs_good_1 (h : xm_H) : f_X11_good_ 1 0 h = some (0, xm_si h 302 4 2) := rfl
theorem zs_good_2 (h : xm_H) : f_X11_good_ 1 1 h = some (1, xm_si h 302 4 0) := rfl
theorem zs_good__0 (x y : Int32) (h : xm_H) : f_X11_good__ 0 x y h = some (0, xm_si h 302 4 1) := rfl
theorem zs_good__1 (y : Int32) (h : xm_H) : f_X11_good__ 1 0 y h = some (0, xm_si h 302 4 2) := rfl
theorem zs_good__2 (h : xm_H) : f_X11_good__ 1 1 0 h = some (0, xm_si h 302 4 3) := rfl
theorem zs_good__3 (h : xm_H) : f_X11_good__ 1 1 1 h = some (1, xm_si h 302 4 0) := rfl
theorem zs_of0 {c : Nat} {h : xm_H} (hc : c < 8) : f_X11_of (nI c) 0 h = some (xm_i h 303 (3 + 6 * c), h) := by
  unfold f_X11_of
  rw [show (3 : Int32) + 6 * nI c + 0 = nI (3 + 6 * c) from zx_of c 0, if_pos (zb_in (by omega) (by decide)), nI_clamp (by omega)]
theorem zs_set0 {c : Nat} {h : xm_H} {v : Int32} (hc : c < 8) : f_X11_set (nI c) 0 v h = some ((), xm_si h 303 (3 + 6 * c) v) := by
  unfold f_X11_set
  rw [show (3 : Int32) + 6 * nI c + 0 = nI (3 + 6 * c) from zx_of c 0, if_pos (zb_in (by omega) (by decide)), nI_clamp (by omega)]
  rfl
theorem zs_of1 {c : Nat} {h : xm_H} (hc : c < 8) : f_X11_of (nI c) 1 h = some (xm_i h 303 (3 + 6 * c + 1), h) := by
  unfold f_X11_of
  rw [show (3 : Int32) + 6 * nI c + 1 = nI (3 + 6 * c + 1) from zx_of c 1, if_pos (zb_in (by omega) (by decide)), nI_clamp (by omega)]
theorem zs_set1 {c : Nat} {h : xm_H} {v : Int32} (hc : c < 8) : f_X11_set (nI c) 1 v h = some ((), xm_si h 303 (3 + 6 * c + 1) v) := by
  unfold f_X11_set
  rw [show (3 : Int32) + 6 * nI c + 1 = nI (3 + 6 * c + 1) from zx_of c 1, if_pos (zb_in (by omega) (by decide)), nI_clamp (by omega)]
  rfl
theorem zs_of2 {c : Nat} {h : xm_H} (hc : c < 8) : f_X11_of (nI c) 2 h = some (xm_i h 303 (3 + 6 * c + 2), h) := by
  unfold f_X11_of
  rw [show (3 : Int32) + 6 * nI c + 2 = nI (3 + 6 * c + 2) from zx_of c 2, if_pos (zb_in (by omega) (by decide)), nI_clamp (by omega)]
theorem zs_set2 {c : Nat} {h : xm_H} {v : Int32} (hc : c < 8) : f_X11_set (nI c) 2 v h = some ((), xm_si h 303 (3 + 6 * c + 2) v) := by
  unfold f_X11_set
  rw [show (3 : Int32) + 6 * nI c + 2 = nI (3 + 6 * c + 2) from zx_of c 2, if_pos (zb_in (by omega) (by decide)), nI_clamp (by omega)]
  rfl
theorem zs_of3 {c : Nat} {h : xm_H} (hc : c < 8) : f_X11_of (nI c) 3 h = some (xm_i h 303 (3 + 6 * c + 3), h) := by
  unfold f_X11_of
  rw [show (3 : Int32) + 6 * nI c + 3 = nI (3 + 6 * c + 3) from zx_of c 3, if_pos (zb_in (by omega) (by decide)), nI_clamp (by omega)]
theorem zs_set3 {c : Nat} {h : xm_H} {v : Int32} (hc : c < 8) : f_X11_set (nI c) 3 v h = some ((), xm_si h 303 (3 + 6 * c + 3) v) := by
  unfold f_X11_set
  rw [show (3 : Int32) + 6 * nI c + 3 = nI (3 + 6 * c + 3) from zx_of c 3, if_pos (zb_in (by omega) (by decide)), nI_clamp (by omega)]
  rfl
theorem zs_of4 {c : Nat} {h : xm_H} (hc : c < 8) : f_X11_of (nI c) 4 h = some (xm_i h 303 (3 + 6 * c + 4), h) := by
  unfold f_X11_of
  rw [show (3 : Int32) + 6 * nI c + 4 = nI (3 + 6 * c + 4) from zx_of c 4, if_pos (zb_in (by omega) (by decide)), nI_clamp (by omega)]
theorem zs_set4 {c : Nat} {h : xm_H} {v : Int32} (hc : c < 8) : f_X11_set (nI c) 4 v h = some ((), xm_si h 303 (3 + 6 * c + 4) v) := by
  unfold f_X11_set
  rw [show (3 : Int32) + 6 * nI c + 4 = nI (3 + 6 * c + 4) from zx_of c 4, if_pos (zb_in (by omega) (by decide)), nI_clamp (by omega)]
  rfl
theorem zs_of5 {c : Nat} {h : xm_H} (hc : c < 8) : f_X11_of (nI c) 5 h = some (xm_i h 303 (3 + 6 * c + 5), h) := by
  unfold f_X11_of
  rw [show (3 : Int32) + 6 * nI c + 5 = nI (3 + 6 * c + 5) from zx_of c 5, if_pos (zb_in (by omega) (by decide)), nI_clamp (by omega)]
theorem zs_set5 {c : Nat} {h : xm_H} {v : Int32} (hc : c < 8) : f_X11_set (nI c) 5 v h = some ((), xm_si h 303 (3 + 6 * c + 5) v) := by
  unfold f_X11_set
  rw [show (3 : Int32) + 6 * nI c + 5 = nI (3 + 6 * c + 5) from zx_of c 5, if_pos (zb_in (by omega) (by decide)), nI_clamp (by omega)]
  rfl
theorem zs_im0 {k : Nat} {h : xm_H} (hk : k < 400) : f_X11_impressionAt (nI k) 0 h = some (xm_i h 303 (57 + 5 * k), h) := by
  unfold f_X11_impressionAt
  rw [show (57 : Int32) + 5 * nI k + 0 = nI (57 + 5 * k) from zx_im k 0, if_pos (zb_in (by omega) (by decide)), nI_clamp (by omega)]
theorem zs_im1 {k : Nat} {h : xm_H} (hk : k < 400) : f_X11_impressionAt (nI k) 1 h = some (xm_i h 303 (57 + 5 * k + 1), h) := by
  unfold f_X11_impressionAt
  rw [show (57 : Int32) + 5 * nI k + 1 = nI (57 + 5 * k + 1) from zx_im k 1, if_pos (zb_in (by omega) (by decide)), nI_clamp (by omega)]
theorem zs_im2 {k : Nat} {h : xm_H} (hk : k < 400) : f_X11_impressionAt (nI k) 2 h = some (xm_i h 303 (57 + 5 * k + 2), h) := by
  unfold f_X11_impressionAt
  rw [show (57 : Int32) + 5 * nI k + 2 = nI (57 + 5 * k + 2) from zx_im k 2, if_pos (zb_in (by omega) (by decide)), nI_clamp (by omega)]
theorem zs_im3 {k : Nat} {h : xm_H} (hk : k < 400) : f_X11_impressionAt (nI k) 3 h = some (xm_i h 303 (57 + 5 * k + 3), h) := by
  unfold f_X11_impressionAt
  rw [show (57 : Int32) + 5 * nI k + 3 = nI (57 + 5 * k + 3) from zx_im k 3, if_pos (zb_in (by omega) (by decide)), nI_clamp (by omega)]
theorem zs_im4 {k : Nat} {h : xm_H} (hk : k < 400) : f_X11_impressionAt (nI k) 4 h = some (xm_i h 303 (57 + 5 * k + 4), h) := by
  unfold f_X11_impressionAt
  rw [show (57 : Int32) + 5 * nI k + 4 = nI (57 + 5 * k + 4) from zx_im k 4, if_pos (zb_in (by omega) (by decide)), nI_clamp (by omega)]
theorem zs_cv0 {k : Nat} {h : xm_H} (hk : k < 40) : f_X11_conversionAt (nI k) 0 h = some (xm_i h 303 (2057 + 4 * k), h) := by
  unfold f_X11_conversionAt
  rw [show (2057 : Int32) + 4 * nI k + 0 = nI (2057 + 4 * k) from zx_cv k 0, if_pos (zb_in (by omega) (by decide)), nI_clamp (by omega)]
theorem zs_cv1 {k : Nat} {h : xm_H} (hk : k < 40) : f_X11_conversionAt (nI k) 1 h = some (xm_i h 303 (2057 + 4 * k + 1), h) := by
  unfold f_X11_conversionAt
  rw [show (2057 : Int32) + 4 * nI k + 1 = nI (2057 + 4 * k + 1) from zx_cv k 1, if_pos (zb_in (by omega) (by decide)), nI_clamp (by omega)]
theorem zs_cv2 {k : Nat} {h : xm_H} (hk : k < 40) : f_X11_conversionAt (nI k) 2 h = some (xm_i h 303 (2057 + 4 * k + 2), h) := by
  unfold f_X11_conversionAt
  rw [show (2057 : Int32) + 4 * nI k + 2 = nI (2057 + 4 * k + 2) from zx_cv k 2, if_pos (zb_in (by omega) (by decide)), nI_clamp (by omega)]
theorem zs_cv3 {k : Nat} {h : xm_H} (hk : k < 40) : f_X11_conversionAt (nI k) 3 h = some (xm_i h 303 (2057 + 4 * k + 3), h) := by
  unfold f_X11_conversionAt
  rw [show (2057 : Int32) + 4 * nI k + 3 = nI (2057 + 4 * k + 3) from zx_cv k 3, if_pos (zb_in (by omega) (by decide)), nI_clamp (by omega)]
theorem zs_effective {c : Nat} {h : xm_H} (hc : c < 8) : f_X11_effective (nI c) h = some (zEf (xm_i h 303) c, h) := by
  unfold f_X11_effective
  rw [zs_of0 hc, xb_some, zs_of3 hc, xb_some]
  rfl
theorem zs_planOf {c : Nat} {h : xm_H} (hc : c < 8) (hd : ¬ xm_i h 308 0 = 0) : f_X11_planOf (nI c) h = some (zPl (xm_i h 303) (xm_i h 308) c, h) := by
  unfold f_X11_planOf
  rw [zs_of1 hc, xb_some, if_pos hd, if_pos hd]
  rfl
theorem zs_leftOf {c : Nat} {h : xm_H} (hc : c < 8) : f_X11_leftOf (nI c) h = some (zLf (xm_i h 303) c, h) := by
  unfold f_X11_leftOf
  rw [zs_of1 hc, xb_some, zs_of2 hc, xb_some]
  rfl
theorem zRc_succ (S T : zV) (c : Nat) (u : Int32) (n : Nat) : zRc S T c u (n + 1) = zRc S T c u n + (if zRp S T c u n = true then 1 else 0) := rfl
theorem zs_recentOf {N n c : Nat} {u : Int32} {h : xm_H} (hN : 1000 ≤ N) (hc : c < 8) (hn : n ≤ 400) (hS : xm_i h 303 1 = nI n) : f_X11_recentOf N (nI c) u h = some (nI (zRc (xm_i h 303) (xm_i h 308) c u n), h) := by
  unfold f_X11_recentOf
  refine zlp0 (N := N) (F := fun n s => f_X11_recentOf_5 N (nI c) u n s.1 s.2.1 s.2.2) (I := fun i s => s = (nI (zRc (xm_i h 303) (xm_i h 308) c u i), nI i, h)) (L := n) (s := (0, 0, h)) (by omega) rfl ?_ ?_
  · intro m i s hi hs
    subst hs
    refine ⟨_, rfl, ?_⟩
    show f_X11_recentOf_5B N (nI c) u (f_X11_recentOf_5 N (nI c) u m) (nI (zRc (xm_i h 303) (xm_i h 308) c u i)) (nI i) h = f_X11_recentOf_5 N (nI c) u m (nI (zRc (xm_i h 303) (xm_i h 308) c u (i + 1))) (nI (i + 1)) h
    generalize f_X11_recentOf_5 N (nI c) u m = rec
    unfold f_X11_recentOf_5B
    rw [hS, if_pos (nI_lt hi (by omega)), zs_im1 (by omega), xb_some, zRc_succ]
    by_cases h1 : xm_i h 303 (57 + 5 * i + 1) = u
    · rw [if_pos h1, zs_im2 (by omega), xb_some]
      by_cases h2 : xm_i h 303 (57 + 5 * i + 2) = nI c
      · rw [if_pos h2, zs_im0 (by omega), xb_some, show (39 : Int32) + nI c = nI (39 + c) from nI_add 39 c, if_pos (zb_in (by omega) (by decide)), nI_clamp (by omega)]
        by_cases h3 : xm_i h 303 0 - xm_i h 308 (39 + c) < xm_i h 303 (57 + 5 * i)
        · rw [if_pos h3, if_pos (show zRp (xm_i h 303) (xm_i h 308) c u i = true from decide_eq_true ⟨h1, h2, h3⟩), nI_1, nI_1]
        · rw [if_neg h3, if_neg (fun z => h3 (of_decide_eq_true z).2.2), zx_0, nI_1]
      · rw [if_neg h2, if_neg (fun z => h2 (of_decide_eq_true z).2.1), zx_0, nI_1]
    · rw [if_neg h1, if_neg (fun z => h1 (of_decide_eq_true z).1), zx_0, nI_1]
  · intro m s hs
    subst hs
    show f_X11_recentOf_5B N (nI c) u (f_X11_recentOf_5 N (nI c) u m) (nI (zRc (xm_i h 303) (xm_i h 308) c u n)) (nI n) h = _
    unfold f_X11_recentOf_5B
    rw [hS, if_neg (nI_nlt (Nat.le_refl n) (by omega))]
theorem zs_refusalOf {N n c t : Nat} {u : Int32} {h : xm_H} (hN : 1000 ≤ N) (hc : c < 8) (ht : t < 6) (hn : n ≤ 400) (hS : xm_i h 303 1 = nI n) (hd : ¬ xm_i h 308 0 = 0) : f_X11_refusalOf N (nI c) u (nI t) h = some (zRf (xm_i h 303) (xm_i h 308) (nI (zRc (xm_i h 303) (xm_i h 308) c u n)) c (nI t) (zEf (xm_i h 303) c) (xm_i h 303 (51 + t)), h) := by
  unfold f_X11_refusalOf zRf
  simp only [zs_effective hc, xb_some, zs_of5 hc, zs_leftOf hc, zs_recentOf hN hc hn hS, zs_of4 hc, zs_of2 hc, zs_planOf hc hd, show (47 : Int32) + nI c = nI (47 + c) from nI_add 47 c, show (31 : Int32) + nI c = nI (31 + c) from nI_add 31 c, show (51 : Int32) + nI t = nI (51 + t) from nI_add 51 t, nI_clamp (show 47 + c < 2 ^ 31 by omega), nI_clamp (show 31 + c < 2 ^ 31 by omega), nI_clamp (show 51 + t < 2 ^ 31 by omega), if_pos (zb_in (show 47 + c < 72 by omega) (by decide)), if_pos (zb_in (show 31 + c < 72 by omega) (by decide)), if_pos (zb_in (show 51 + t < 2217 by omega) (by decide))]
  by_cases h1 : xm_i h 303 (3 + 6 * c + 5) = 1
  · rw [if_pos h1, if_pos h1]
  rw [if_neg h1, if_neg h1]
  have fin : (if zLf (xm_i h 303) c < zEf (xm_i h 303) c then some ((3 : Int32), h) else if nI (zRc (xm_i h 303) (xm_i h 308) c u n) < xm_i h 308 (31 + c) then if xm_i h 303 (3 + 6 * c + 4) = 2 then if xm_i h 303 (3 + 6 * c + 2) < zPl (xm_i h 303) (xm_i h 308) c then if zEf (xm_i h 303) c < xm_i h 303 (51 + t) then some ((6 : Int32), h) else some ((0 : Int32), h) else some ((5 : Int32), h) else if zEf (xm_i h 303) c < xm_i h 303 (51 + t) then some ((6 : Int32), h) else some ((0 : Int32), h) else some ((4 : Int32), h)) = some (if zLf (xm_i h 303) c < zEf (xm_i h 303) c then (3 : Int32) else if ¬ nI (zRc (xm_i h 303) (xm_i h 308) c u n) < xm_i h 308 (31 + c) then 4 else if xm_i h 303 (3 + 6 * c + 4) = 2 ∧ ¬ xm_i h 303 (3 + 6 * c + 2) < zPl (xm_i h 303) (xm_i h 308) c then 5 else if zEf (xm_i h 303) c < xm_i h 303 (51 + t) then 6 else 0, h) := by
    by_cases h3 : zLf (xm_i h 303) c < zEf (xm_i h 303) c
    · rw [if_pos h3, if_pos h3]
    rw [if_neg h3, if_neg h3]
    by_cases h4 : nI (zRc (xm_i h 303) (xm_i h 308) c u n) < xm_i h 308 (31 + c)
    · rw [if_pos h4, if_neg (not_not_intro h4)]
      by_cases h6 : zEf (xm_i h 303) c < xm_i h 303 (51 + t)
      · rw [if_pos h6, if_pos h6]
        by_cases h5 : xm_i h 303 (3 + 6 * c + 4) = 2
        · rw [if_pos h5]
          by_cases h7 : xm_i h 303 (3 + 6 * c + 2) < zPl (xm_i h 303) (xm_i h 308) c
          · rw [if_pos h7, if_neg (zn2 (not_not_intro h7))]
          · rw [if_neg h7, if_pos ⟨h5, h7⟩]
        · rw [if_neg h5, if_neg (zn1 h5)]
      · rw [if_neg h6, if_neg h6]
        by_cases h5 : xm_i h 303 (3 + 6 * c + 4) = 2
        · rw [if_pos h5]
          by_cases h7 : xm_i h 303 (3 + 6 * c + 2) < zPl (xm_i h 303) (xm_i h 308) c
          · rw [if_pos h7, if_neg (zn2 (not_not_intro h7))]
          · rw [if_neg h7, if_pos ⟨h5, h7⟩]
        · rw [if_neg h5, if_neg (zn1 h5)]
    · rw [if_neg h4, if_pos h4]
  by_cases h2 : xm_i h 308 (47 + c) = -1
  · rw [if_pos h2, if_neg (zn1 (not_not_intro h2))]
    exact fin
  · rw [if_neg h2]
    by_cases h2b : xm_i h 308 (47 + c) = nI t
    · rw [if_pos h2b, if_neg (zn2 (not_not_intro h2b))]
      exact fin
    · rw [if_neg h2b, if_pos ⟨h2, h2b⟩]
