/-! write: the digits, backwards -/
theorem zdivn {q : Nat} (hq : q < 2 ^ 30) : (-nI q) / 100 = -nI (q / 100) := by
  have h1 : q / 100 ≤ q := Nat.div_le_self _ _
  rw [← Int32.toInt_inj, Int32.toInt_div, zneg hq, zneg (by omega), show (100 : Int32).toInt = 100 from rfl, Int.neg_tdiv, Int.tdiv_eq_ediv_of_nonneg (by omega), show (q : Int) / 100 = ((q / 100 : Nat) : Int) from (Int.natCast_ediv q 100).symm]
  generalize q / 100 = k at *
  rw [Int.bmod_def]
  split <;> omega
theorem zremn {q : Nat} (hq : q < 2 ^ 30) : (-nI q) / 100 * 100 - -nI q = nI (q % 100) := by
  rw [zdivn hq, show (100 : Int32) = nI 100 from rfl, Int32.neg_mul, pk_mul, Int32.sub_neg, Int32.add_comm, ← Int32.sub_eq_add_neg, pk_sub (Nat.div_mul_le_self q 100)]
  congr 1
  omega
theorem zm100 {q : Nat} (hq : q < 2 ^ 30) : ((-100 : Int32) < -nI q) ↔ q < 100 := by
  rw [Int32.lt_iff_toInt_lt, zneg hq, show (-100 : Int32).toInt = -100 from rfl]
  omega
theorem zm9 {q : Nat} (hq : q < 2 ^ 30) : (-nI q < (-9 : Int32)) ↔ 9 < q := by
  rw [Int32.lt_iff_toInt_lt, zneg hq, show (-9 : Int32).toInt = -9 from rfl]
  omega
