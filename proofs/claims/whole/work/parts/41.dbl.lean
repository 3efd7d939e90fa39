/-! doubles: what is not negative and no NaN stays so -/
abbrev zINF : Nat := 9218868437227405312
def zPos (x : UInt64) : Prop := x.toNat ≤ zINF
theorem zPos.g {x : UInt64} (h : zPos x) : x &&& 0x7fffffffffffffff ≤ 0x7ff0000000000000 := by
  rw [UInt64.le_iff_toNat_le, UInt64.toNat_and]
  exact Nat.le_trans Nat.and_le_left h
def zD (d : FP.Core.Datum) : Prop := d = .inf false ∨ ∃ c q, d = .fin false c q
theorem zdec {n : Nat} (h : n ≤ zINF) : zD (FP.Core.decode FP.Core.b64 n) := by
  unfold FP.Core.decode
  have eS : FP.Core.fieldS FP.Core.b64 n = false := by
    show (n / 4503599627370496 / 2048 % 2 == 1) = false
    have : n / 4503599627370496 / 2048 % 2 = 0 := by
      unfold zINF at h
      omega
    rw [this]
    rfl
  rw [eS]
  split
  · rename_i h1
    have h1' : n / 4503599627370496 % 2048 = 2047 := h1
    have hT : FP.Core.fieldT FP.Core.b64 n = 0 := by
      show n % 4503599627370496 = 0
      unfold zINF at h
      omega
    rw [if_pos hT]
    exact Or.inl rfl
  · split
    · exact Or.inr ⟨_, _, rfl⟩
    · exact Or.inr ⟨_, _, rfl⟩
theorem zenc_fin {c : Nat} {q : Int} (hc : c < 9007199254740992) (hq : q ≤ 971) : FP.Core.encode FP.Core.b64 (.fin false c q) ≤ zINF := by
  show (if c < 4503599627370496 then FP.Core.assemble FP.Core.b64 false 0 c else FP.Core.assemble FP.Core.b64 false ((q - FP.Core.b64.qmin).toNat + 1) (c - FP.Core.b64.tails)) ≤ zINF
  have hqm : FP.Core.b64.qmin = -1074 := by decide +kernel
  rw [hqm]
  split
  · show (0 * 2048 + 0) * 4503599627370496 + c ≤ zINF
    unfold zINF
    omega
  · show (0 * 2048 + ((q - -1074).toNat + 1)) * 4503599627370496 + (c - 4503599627370496) ≤ zINF
    unfold zINF
    omega
theorem zenc_inf : FP.Core.encode FP.Core.b64 (.inf false) ≤ zINF := by decide +kernel
theorem zbound {c : Nat} {q : Int} (hc : c < 9007199254740992) : zD (FP.Core.bound FP.Core.b64 false c q) ∧ FP.Core.encode FP.Core.b64 (FP.Core.bound FP.Core.b64 false c q) ≤ zINF := by
  unfold FP.Core.bound
  have hqm : FP.Core.b64.qmax = 971 := by decide +kernel
  rw [hqm]
  split
  · rename_i h
    exact ⟨Or.inr ⟨_, _, rfl⟩, zenc_fin hc h⟩
  · exact ⟨Or.inl rfl, zenc_inf⟩
theorem zsettle (c : Nat) (q : Int) : zD (FP.Core.settle FP.Core.b64 false c q) ∧ FP.Core.encode FP.Core.b64 (FP.Core.settle FP.Core.b64 false c q) ≤ zINF := by
  unfold FP.Core.settle
  split
  · rename_i h
    exact zbound h
  · exact zbound (by decide +kernel)
theorem zratio (num den : Nat) (e : Int) : zD (FP.Core.roundRatio FP.Core.b64 false num den e) ∧ FP.Core.encode FP.Core.b64 (FP.Core.roundRatio FP.Core.b64 false num den e) ≤ zINF := by
  unfold FP.Core.roundRatio
  split
  · exact ⟨Or.inr ⟨_, _, rfl⟩, by decide +kernel⟩
  · exact zsettle _ _
theorem zround {d : FP.Core.Datum} (h : zD d) : FP.Core.encode FP.Core.b64 (FP.Core.round FP.Core.b64 d) ≤ zINF := by
  rcases h with rfl | ⟨c, q, rfl⟩
  · exact zenc_inf
  · exact (zratio c 1 q).2
theorem zsumD {x y : FP.Core.Datum} (hx : zD x) (hy : zD y) : zD (FP.Core.exactSum x y) := by
  rcases hx with rfl | ⟨c, q, rfl⟩
  · rcases hy with rfl | ⟨d, r, rfl⟩
    · exact Or.inl rfl
    · exact Or.inl rfl
  · rcases hy with rfl | ⟨d, r, rfl⟩
    · exact Or.inl rfl
    · right
      refine ⟨(FP.Core.sumUnits false c q false d r (min q r)).natAbs, min q r, ?_⟩
      show FP.Core.Datum.fin (FP.Core.sumSign false false (FP.Core.sumUnits false c q false d r (min q r))) _ _ = _
      have : FP.Core.sumSign false false (FP.Core.sumUnits false c q false d r (min q r)) = false := by
        unfold FP.Core.sumSign
        split
        · rfl
        · apply decide_eq_false
          unfold FP.Core.sumUnits FP.Core.signed
          simp only [Bool.false_eq_true, if_false]
          omega
      rw [this]
theorem zquoD {x y : FP.Core.Datum} (hx : zD x) (hy : ∃ d r, y = .fin false d r ∧ d ≠ 0) : FP.Core.encode FP.Core.b64 (FP.Core.quotient FP.Core.b64 x y) ≤ zINF := by
  obtain ⟨d, r, rfl, hd⟩ := hy
  rcases hx with rfl | ⟨c, q, rfl⟩
  · exact zenc_inf
  · show FP.Core.encode FP.Core.b64 (if d = 0 then _ else FP.Core.roundRatio FP.Core.b64 (false != false) c d (q - r)) ≤ zINF
    rw [if_neg hd]
    exact (zratio c d (q - r)).2
theorem zPos_of {n : Nat} (h : n ≤ zINF) : zPos (UInt64.ofNat n) := by
  unfold zPos
  rw [UInt64.toNat_ofNat']
  exact Nat.le_trans (Nat.mod_le _ _) h
theorem zPos_add {a b : UInt64} (ha : zPos a) (hb : zPos b) : zPos (FP.dadd a b) := zPos_of (zround (zsumD (zdec ha) (zdec hb)))
theorem zPos_i2d {k : Nat} (hk : k < 2 ^ 31) : zPos (FP.i2d (nI k)) := by
  refine zPos_of (zround ?_)
  rw [nI_toInt hk]
  refine Or.inr ⟨k, 0, ?_⟩
  unfold FP.Core.ofInt
  rw [decide_eq_false (by omega), Int.natAbs_natCast]
set_option maxRecDepth 100000 in
theorem zdivs : ∀ k : Nat, k < 500 → 0 < k → (match FP.Core.decode FP.Core.b64 (FP.i2d (nI k)).toNat with | .fin false d _ => decide (d ≠ 0) | _ => false) = true := by decide +kernel
theorem zPos_div {a : UInt64} {k : Nat} (ha : zPos a) (hk : k < 500) (h0 : 0 < k) : zPos (FP.ddiv a (FP.i2d (nI k))) := by
  refine zPos_of (zquoD (zdec ha) ?_)
  have h := zdivs k hk h0
  cases hd : FP.Core.decode FP.Core.b64 (FP.i2d (nI k)).toNat with
  | nan =>
    rw [hd] at h
    cases h
  | inf s =>
    rw [hd] at h
    cases h
  | fin s d r =>
    rw [hd] at h
    cases s with
    | true => cases h
    | false => exact ⟨d, r, rfl, of_decide_eq_true h⟩
theorem zPos_0 : zPos FP.dconst0 := by
  unfold zPos
  decide
/-- what the law's comparison says of equal doubles -/
theorem zlaw_d {β : Type} (v : UInt64) (a b : β) : (if (Op.cmpValue (FP.dcmp v v) .l) = 0 then a else (if (Op.cmpValue (FP.dcmp v v) .l) = 0 then b else (if (Op.cmpValue (FP.dcmp v v) .l) = 0 then b else a))) = a := by
  by_cases h : (Op.cmpValue (FP.dcmp v v) .l) = 0
  · rw [if_pos h]
  · rw [if_neg h, if_neg h, if_neg h]
/-- the class's quotient -/
theorem zc_quo {a k : Nat} {h : xm_H} (ha : a < 2 ^ 31) (hk : k < 500) : f_X10_quotient (nI a) (nI k) h = some (if k = 0 then FP.dconst0 else FP.ddiv (FP.i2d (nI a)) (FP.i2d (nI k)), h) := by
  unfold f_X10_quotient
  by_cases h0 : k = 0
  · rw [if_pos (by rw [h0]; rfl), if_pos h0]
  · rw [if_neg (nI_ne0 (by omega) (by omega)), if_pos (zPos_div (zPos_i2d ha) hk (by omega)).g, if_neg h0]
/-- bits of a mask -/
def zpc (m : Nat) : Nat := zct (fun j => m.testBit j) 16
theorem zct_or {p : Nat → Bool} {u : Nat} : ∀ n, zct (fun j => p j || decide (u = j)) n = zct p n + (if u < n ∧ p u = false then 1 else 0) := by
  intro n
  induction n with
  | zero => rw [if_neg (by omega)]; rfl
  | succ n ih =>
    show zct (fun j => p j || decide (u = j)) n + _ = zct p n + _ + _
    rw [ih]
    by_cases hu : u = n
    · subst hu
      cases hp : p u with
      | true => simp [hp]
      | false => simp [hp]
    · have e1 : decide (u = n) = false := decide_eq_false hu
      show zct p n + _ + (if (p n || decide (u = n)) = true then 1 else 0) = zct p n + (if p n = true then 1 else 0) + _
      rw [e1, Bool.or_false]
      by_cases h1 : u < n ∧ p u = false
      · have h2 : u < n + 1 ∧ p u = false := ⟨by omega, h1.2⟩
        rw [if_pos h1, if_pos h2]
        omega
      · have h2 : ¬ (u < n + 1 ∧ p u = false) := fun z => h1 ⟨by omega, z.2⟩
        rw [if_neg h1, if_neg h2]
        omega
theorem zpc_or {m u : Nat} (hu : u < 16) : zpc (m ||| 2 ^ u) = zpc m + (if m.testBit u = false then 1 else 0) := by
  unfold zpc
  rw [show (fun j => (m ||| 2 ^ u).testBit j) = fun j => m.testBit j || decide (u = j) from funext fun j => by rw [Nat.testBit_or, Nat.testBit_two_pow]]
  rw [zct_or]
  by_cases h : m.testBit u = false
  · rw [if_pos ⟨hu, h⟩, if_pos h]
  · rw [if_neg (fun z => h z.2), if_neg h]
/-- the bytes of a mask apart -/
theorem zland {h l A B : Nat} (hl : l < 256) (hB : B < 256) : (256 * h + l) &&& (256 * A + B) = 256 * (h &&& A) + (l &&& B) := by
  have hlb : l &&& B < 2 ^ 8 := Nat.lt_of_le_of_lt Nat.and_le_left hl
  apply Nat.eq_of_testBit_eq
  intro j
  rw [Nat.testBit_and, show 256 * h + l = 2 ^ 8 * h + l from rfl, show 256 * A + B = 2 ^ 8 * A + B from rfl, show 256 * (h &&& A) + (l &&& B) = 2 ^ 8 * (h &&& A) + (l &&& B) from rfl, Nat.testBit_two_pow_mul_add h hl, Nat.testBit_two_pow_mul_add A hB, Nat.testBit_two_pow_mul_add _ hlb]
  by_cases hj : j < 8
  · rw [if_pos hj, if_pos hj, if_pos hj, Nat.testBit_and]
  · rw [if_neg hj, if_neg hj, if_neg hj, Nat.testBit_and]
def zb1 (l : Nat) : Nat := l - (l / 2 &&& 85)
def zb2 (a : Nat) : Nat := (a &&& 51) + (a / 4 &&& 51)
def zb3 (a : Nat) : Nat := (a + a / 16) % 16
set_option maxRecDepth 100000 in
theorem zb1_lt : ∀ l : Nat, l < 256 → zb1 l < 256 ∧ (l / 2 &&& 85) ≤ l := by decide +kernel
set_option maxRecDepth 100000 in
theorem zb2_lt : ∀ l : Nat, l < 256 → zb2 (zb1 l) ≤ 68 ∧ zb2 (zb1 l) % 16 ≤ 4 := by decide +kernel
set_option maxRecDepth 100000 in
theorem zb_pc : ∀ l : Nat, l < 256 → zb3 (zb2 (zb1 l)) = zct (fun j => l.testBit j) 8 := by decide +kernel
set_option maxRecDepth 100000 in
theorem zm85 : ∀ x : Nat, x < 2 → ∀ y : Nat, y < 128 → (x * 128 + y) &&& 85 = y &&& 85 := by decide +kernel
set_option maxRecDepth 100000 in
theorem zm51 : ∀ x : Nat, x < 4 → ∀ y : Nat, y < 64 → (x * 64 + y) &&& 51 = y &&& 51 := by decide +kernel
def zbn1 (m : Nat) : Nat := m - (m / 2 &&& 21845)
def zbn2 (a : Nat) : Nat := (a &&& 13107) + (a / 4 &&& 13107)
def zbn3 (a : Nat) : Nat := (a + a / 16) &&& 3855
def zbn (m : Nat) : Nat := (zbn3 (zbn2 (zbn1 m)) + zbn3 (zbn2 (zbn1 m)) / 256) &&& 63
theorem zbn1_b {h l : Nat} (hh : h < 256) (hl : l < 256) : zbn1 (256 * h + l) = 256 * zb1 h + zb1 l := by
  unfold zbn1
  have e1 : (256 * h + l) / 2 = 256 * (h / 2) + ((h % 2) * 128 + l / 2) := by omega
  rw [e1, show (21845 : Nat) = 256 * 85 + 85 from rfl, zland (by omega) (by omega), zm85 (h % 2) (by omega) (l / 2) (by omega)]
  have a1 := (zb1_lt h hh).2
  have a2 := (zb1_lt l hl).2
  unfold zb1
  omega
theorem zbn2_b {h l : Nat} (hh : h < 256) (hl : l < 256) : zbn2 (256 * h + l) = 256 * zb2 h + zb2 l := by
  unfold zbn2
  have e1 : (256 * h + l) / 4 = 256 * (h / 4) + ((h % 4) * 64 + l / 4) := by omega
  rw [e1, show (13107 : Nat) = 256 * 51 + 51 from rfl, zland hl (by omega), zland (by omega) (by omega), zm51 (h % 4) (by omega) (l / 4) (by omega)]
  unfold zb2
  omega
theorem zland15 (x : Nat) : x &&& 15 = x % 16 := Nat.and_two_pow_sub_one_eq_mod x 4
theorem zbn3_b {h l : Nat} (hh : h ≤ 68) (hl : l ≤ 68) (hh4 : h % 16 ≤ 4) (hl4 : l % 16 ≤ 4) : zbn3 (256 * h + l) = 256 * zb3 h + zb3 l := by
  unfold zbn3 zb3
  have e1 : 256 * h + l + (256 * h + l) / 16 = 256 * (h + h / 16) + (l + (h % 16) * 16 + l / 16) := by omega
  rw [e1, show (3855 : Nat) = 256 * 15 + 15 from rfl, zland (by omega) (by omega), zland15, zland15]
  omega
theorem zct_add (p : Nat → Bool) (a : Nat) : ∀ b, zct p (a + b) = zct p a + zct (fun j => p (a + j)) b := by
  intro b
  induction b with
  | zero => rfl
  | succ b ih =>
    show zct p (a + b) + (if p (a + b) = true then 1 else 0) = zct p a + (zct (fun j => p (a + j)) b + (if p (a + b) = true then 1 else 0))
    rw [ih]
    omega
theorem zbn_pc {m : Nat} (hm : m < 65536) : zbn m = zpc m := by
  obtain ⟨h, l, hh, hl, rfl⟩ : ∃ h l, h < 256 ∧ l < 256 ∧ m = 256 * h + l := ⟨m / 256, m % 256, by omega, by omega, by omega⟩
  have h1 := zb1_lt h hh
  have l1 := zb1_lt l hl
  have h2 := zb2_lt h hh
  have l2 := zb2_lt l hl
  have h3 : zb3 (zb2 (zb1 h)) < 16 := Nat.mod_lt _ (by omega)
  have l3 : zb3 (zb2 (zb1 l)) < 16 := Nat.mod_lt _ (by omega)
  unfold zbn
  rw [zbn1_b hh hl, zbn2_b h1.1 l1.1, zbn3_b h2.1 l2.1 h2.2 l2.2, show (63 : Nat) = 2 ^ 6 - 1 from rfl, Nat.and_two_pow_sub_one_eq_mod]
  have hp : zpc (256 * h + l) = zct (fun j => l.testBit j) 8 + zct (fun j => h.testBit j) 8 := by
    unfold zpc
    rw [show (16 : Nat) = 8 + 8 from rfl, zct_add]
    congr 1
    · refine zct_congr (fun i hi => ?_)
      rw [show 256 * h + l = 2 ^ 8 * h + l from rfl, Nat.testBit_two_pow_mul_add h hl, if_pos hi]
    · refine zct_congr (fun i hi => ?_)
      rw [show 256 * h + l = 2 ^ 8 * h + l from rfl, Nat.testBit_two_pow_mul_add h hl, if_neg (by omega), show 8 + i - 8 = i by omega]
  rw [hp, ← zb_pc h hh, ← zb_pc l hl]
  generalize zb3 (zb2 (zb1 h)) = x at *
  generalize zb3 (zb2 (zb1 l)) = y at *
  omega
