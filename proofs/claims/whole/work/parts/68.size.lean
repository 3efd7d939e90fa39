/-! write: how many digits -/
theorem zneg {q : Nat} (hq : q < 2 ^ 30) : (-nI q).toInt = -(q : Int) := by
  rw [show -nI q = nI 0 - nI q from (Int32.zero_sub (nI q)).symm, pk_sub_toInt (by omega) hq]
  omega
section Sz
variable {N q : Nat} {h : xm_H}
theorem zc_size1 {m d : Nat} {c2 : Int32} {p : Nat} (hp : c2.toInt = -(p : Int)) (hq : q ≤ 9999) (hd : d < 10) : f_J6_stringSize_0f7a4_16 N (-nI q) 0 (m + 1) c2 (nI d) h = if q < p then some (nI d, h) else f_J6_stringSize_0f7a4_16 N (-nI q) 0 m (10 * c2) (nI (d + 1)) h := by
  show f_J6_stringSize_0f7a4_16B N (-nI q) 0 (f_J6_stringSize_0f7a4_16 N (-nI q) 0 m) c2 (nI d) h = _
  unfold f_J6_stringSize_0f7a4_16B
  rw [if_pos (show nI d < (10 : Int32) from nI_lt (b := 10) hd (by omega)), nI_1, Int32.add_zero]
  have hiff : c2 < -nI q ↔ q < p := by
    rw [Int32.lt_iff_toInt_lt, hp, zneg (by omega)]
    omega
  by_cases h1 : q < p
  · rw [if_pos (hiff.mpr h1), if_pos h1]
  · rw [if_neg (fun z => h1 (hiff.mp z)), if_neg h1]
theorem zc_size (hN : 1000 ≤ N) (hq : q ≤ 9999) : f_J6_stringSize_0f7a4 N (nI q) h = some (nI (zDg q).length, h) := by
  obtain ⟨m, hm⟩ : ∃ m, N = m + 5 := ⟨N - 5, by omega⟩
  unfold f_J6_stringSize_0f7a4
  rw [if_neg (nI_pos (by omega))]
  have e : ∀ M, f_J6_stringSize_0f7a4_16 M (-nI q) 0 (m + 5) (-10) (1 : Int32) h = some (nI (zDg q).length, h) := fun M => by
    rw [show (1 : Int32) = nI 1 from rfl, zc_size1 (m := m + 4) (p := 10) rfl hq (by omega), show (10 : Int32) * (-10) = -100 from rfl, zc_size1 (m := m + 3) (p := 100) rfl hq (by omega), show (10 : Int32) * (-100) = -1000 from rfl, zc_size1 (m := m + 2) (p := 1000) rfl hq (by omega), show (10 : Int32) * (-1000) = -10000 from rfl, zc_size1 (m := m + 1) (p := 10000) rfl hq (by omega), if_pos (show q < 10000 by omega)]
    unfold zDg
    by_cases h1 : q < 10
    · rw [if_pos h1, if_pos h1]
      rfl
    · rw [if_neg h1, if_neg h1]
      by_cases h2 : q < 100
      · rw [if_pos h2, if_pos h2]
        rfl
      · rw [if_neg h2, if_neg h2]
        by_cases h3 : q < 1000
        · rw [if_pos h3, if_pos h3]
          rfl
        · rw [if_neg h3, if_neg h3]
          rfl
  have e2 := e N
  rw [← hm] at e2
  exact e2
end Sz
