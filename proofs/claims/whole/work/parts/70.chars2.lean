/-! write: the digits of a number, one step -/
section Ch
variable {N L q bo e cap m : Nat} {xs : zV} {h g : xm_H} {K : Int32 → Int32 → xm_H → Option (Int32 × xm_H)}
theorem zk1 (hK : zKon L xs h) (hq : q < 100) : xm_k h 1 = (102, 100) ∧ xm_k h 2 = (102, 100) ∧ xm_i h 1 q = nI (48 + q % 10) ∧ xm_i h 2 q = nI (48 + q / 10) := by
  obtain ⟨a1, a2⟩ := hK 1 (by omega)
  obtain ⟨b1, b2⟩ := hK 2 (by omega)
  exact ⟨a1, b1, (a2 q).1, (b2 q).1⟩
theorem zc_ch0 {c5 : Int32} (hq : q < 100) : f_J6_getChars_ba4f3_22 N bo 0 K (m + 1) (-nI q) c5 h = K (-nI q) c5 h := by
  show f_J6_getChars_ba4f3_22B N bo 0 K (f_J6_getChars_ba4f3_22 N bo 0 K m) (-nI q) c5 h = _
  unfold f_J6_getChars_ba4f3_22B
  rw [if_pos ((zm100 (by omega)).mpr hq)]
theorem zc_ch1 (hK : zKon L xs h) (hbo : 160 ≤ bo) (hk : xm_k h bo = (102, cap)) (hcap : cap ≤ 300) (he : e + 2 ≤ cap) (hq : 100 ≤ q) (hq2 : q ≤ 9999) : f_J6_getChars_ba4f3_22 N bo 0 K (m + 1) (-nI q) (nI (e + 2)) h = f_J6_getChars_ba4f3_22 N bo 0 K m (-nI (q / 100)) (nI e) (xm_si (xm_si h bo (e + 1) (nI (48 + q % 100 % 10))) bo e (nI (48 + q % 100 / 10))) := by
  show f_J6_getChars_ba4f3_22B N bo 0 K (f_J6_getChars_ba4f3_22 N bo 0 K m) (-nI q) (nI (e + 2)) h = _
  obtain ⟨k1, k2, k3, k4⟩ := zk1 (q := q % 100) hK (by omega)
  have n1 := (znar_7 ⟨48 + q % 100 % 10, by omega⟩).2
  have n2 := (znar_7 ⟨48 + q % 100 / 10, by omega⟩).2
  dsimp only at n1 n2
  have m1 : nI (e + 2) + (-1) = nI (e + 1) := pk_m1 (e + 1)
  unfold f_J6_getChars_ba4f3_22B
  rw [if_neg (fun z => absurd ((zm100 (by omega)).mp z) (by omega)), zremn (by omega), zdivn (by omega), m1, pk_m1]
  simp only [xl, nI_clamp (show q % 100 < 2 ^ 31 by omega), nI_clamp (show e + 1 < 2 ^ 31 by omega), nI_clamp (show e < 2 ^ 31 by omega)]
  rw [if_pos (by rw [k1]), if_pos (by rw [k1]; exact zb_in (by omega) (by decide)), if_pos (by rw [hk]), if_pos (by rw [hk]; exact zb_in (show e + 1 < cap by omega) (by show cap < _; omega)), if_pos hbo, k3, n1]
  have e2 : xm_k (xm_si h bo (e + 1) (nI (48 + q % 100 % 10))) = xm_k h := rfl
  rw [e2, if_pos (by rw [k2]), if_pos (by rw [k2]; exact zb_in (by omega) (by decide)), if_pos (by rw [hk]), if_pos (by rw [hk]; exact zb_in (show e < cap by omega) (by show cap < _; omega)), if_pos hbo, xi_ne (by omega), k4, n2]
end Ch
