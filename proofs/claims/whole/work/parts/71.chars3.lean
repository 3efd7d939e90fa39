/-! write: the digits of a number -/
def zKc (x2 : Nat) : Int32 → Int32 → xm_H → Option (Int32 × xm_H) := (fun (e30 : Int32) (e31 : Int32) (h32 : xm_H) => (if (xm_k h32 1).1 = 102 then (if xin (-e30) (xm_k h32 1).2 then (if (xm_k h32 x2).1 = 102 then (if xin (e31 + (-1 : Int32)) (xm_k h32 x2).2 then (if 160 ≤ x2 then (xl (xm_si h32 x2 (Int32.toNatClampNeg (e31 + (-1 : Int32))) (vp_nar .byte (xm_i h32 1 (Int32.toNatClampNeg (-e30))))) fun h38 => (if e30 < (-9 : Int32) then (if (xm_k h38 2).1 = 102 then (if xin (-e30) (xm_k h38 2).2 then (if (xm_k h38 x2).1 = 102 then (if xin ((e31 + (-1 : Int32)) + (-1 : Int32)) (xm_k h38 x2).2 then (if 160 ≤ x2 then (xl (xm_si h38 x2 (Int32.toNatClampNeg ((e31 + (-1 : Int32)) + (-1 : Int32))) (vp_nar .byte (xm_i h38 2 (Int32.toNatClampNeg (-e30))))) fun h46 => (some ((e31 + (-1 : Int32)) + (-1 : Int32), h46))) else none) else none) else none) else none) else none) else (some (e31 + (-1 : Int32), h38)))) else none) else none) else none) else none) else none))
section Gc
variable {N L q bo e cap m : Nat} {xs : zV} {h g : xm_H}
theorem zc_gc {x1 : Int32} (hq : q ≤ 9999) : f_J6_getChars_ba4f3 N (nI q) x1 bo h = f_J6_getChars_ba4f3_22 N bo 0 (zKc bo) N (-nI q) x1 h := by
  unfold f_J6_getChars_ba4f3
  rw [if_neg (nI_pos (by omega))]
  rfl
theorem zc_fin1 (hK : zKon L xs h) (hbo : 160 ≤ bo) (hk : xm_k h bo = (102, cap)) (hcap : cap ≤ 300) (he : e + 1 ≤ cap) (hq : q < 10) : zKc bo (-nI q) (nI (e + 1)) h = some (nI e, xm_si h bo e (nI (48 + q))) := by
  obtain ⟨k1, k2, k3, k4⟩ := zk1 (q := q) hK (by omega)
  have n1 := (znar_7 ⟨48 + q % 10, by omega⟩).2
  dsimp only at n1
  unfold zKc
  rw [Int32.neg_neg, pk_m1]
  simp only [xl, nI_clamp (show q < 2 ^ 31 by omega), nI_clamp (show e < 2 ^ 31 by omega)]
  rw [if_pos (by rw [k1]), if_pos (by rw [k1]; exact zb_in (by omega) (by decide)), if_pos (by rw [hk]), if_pos (by rw [hk]; exact zb_in (show e < cap by omega) (by show cap < _; omega)), if_pos hbo, k3, n1, if_neg (fun z => absurd ((zm9 (by omega)).mp z) (by omega)), show q % 10 = q by omega]
theorem zc_fin2 (hK : zKon L xs h) (hbo : 160 ≤ bo) (hk : xm_k h bo = (102, cap)) (hcap : cap ≤ 300) (he : e + 2 ≤ cap) (hq : 10 ≤ q) (hq2 : q < 100) : zKc bo (-nI q) (nI (e + 2)) h = some (nI e, xm_si (xm_si h bo (e + 1) (nI (48 + q % 10))) bo e (nI (48 + q / 10))) := by
  obtain ⟨k1, k2, k3, k4⟩ := zk1 (q := q) hK (by omega)
  have n1 := (znar_7 ⟨48 + q % 10, by omega⟩).2
  have n2 := (znar_7 ⟨48 + q / 10, by omega⟩).2
  dsimp only at n1 n2
  have m1 : nI (e + 2) + (-1) = nI (e + 1) := pk_m1 (e + 1)
  unfold zKc
  rw [Int32.neg_neg, m1, pk_m1]
  simp only [xl, nI_clamp (show q < 2 ^ 31 by omega), nI_clamp (show e < 2 ^ 31 by omega), nI_clamp (show e + 1 < 2 ^ 31 by omega)]
  rw [if_pos (by rw [k1]), if_pos (by rw [k1]; exact zb_in (by omega) (by decide)), if_pos (by rw [hk]), if_pos (by rw [hk]; exact zb_in (show e + 1 < cap by omega) (by show cap < _; omega)), if_pos hbo, k3, n1, if_pos ((zm9 (by omega)).mpr (by omega))]
  have e2 : xm_k (xm_si h bo (e + 1) (nI (48 + q % 10))) = xm_k h := rfl
  rw [e2, if_pos (by rw [k2]), if_pos (by rw [k2]; exact zb_in (by omega) (by decide)), if_pos (by rw [hk]), if_pos (by rw [hk]; exact zb_in (show e < cap by omega) (by show cap < _; omega)), if_pos hbo, xi_ne (by omega), k4, n2]
end Gc
