/-! the law's loop -/
section Lp
variable {N L : Nat} {xs : zV}
/-- one call of the loop -/
theorem law_one {c n : Nat} {h : xm_H} (hN : 20000 ≤ N) (hL : L ≤ 3072) (hc : c + 6 ≤ L) (hI : zI L xs h) : ∃ h2, f_L_law_28 N (n + 1) (nI c) h = f_L_law_28 N n (nI (c + 6)) h2 ∧ zPo L xs h h2 := by
  obtain ⟨ρ, δ, nc, nt, nf, na, n', nv, ne, la, nb, bo, no, cap, hI⟩ := hI
  have hk := zlk hI
  show ∃ h2, (xbr (xm_r h 182 0) fun ρ => xbr (xm_r h 161 3) fun δ => f_L_law_28B N ρ δ (f_L_law_28 N n) (nI c) h) = _ ∧ _
  rw [xs_rho hI.1, xbr_some, xs_del hI.1, xbr_some]
  unfold f_L_law_28B
  have h6 : ¬ (Int32.ofNat (xm_k h 0).2 - (6 : Int32)) < nI c := by
    rw [hk, Int32.lt_iff_toInt_lt]
    show ¬ (nI L - nI 6).toInt < (nI c).toInt
    rw [pk_sub_toInt (by omega) (by omega), nI_toInt (by omega)]
    omega
  rw [if_pos (by rw [hk]; exact ⟨show 100 ≤ 100 by decide, show 100 < 109 by decide⟩), if_neg h6, if_pos (by rw [hk]), if_pos (by rw [hk]; exact zb_in (show c < L by omega) (show L < 2 ^ 31 by omega))]
  have e6 : nI (c + 6) = nI c + 6 := (nI_add c 6).symm
  rw [e6]
  generalize xm_i h 0 (Int32.toNatClampNeg (nI c)) &&& (63 : Int32) = X
  by_cases e0 : X = nI 0
  · rw [if_pos e0]
    exact lc_0 hN hL hc hI
  rw [if_neg e0]
  by_cases e1 : X = nI 1
  · rw [if_pos e1]
    exact lc_1 hN hL hc hI
  rw [if_neg e1]
  by_cases e2 : X = nI 2
  · rw [if_pos e2]
    exact lc_2 hN hL hc hI
  rw [if_neg e2]
  by_cases e3 : X = nI 3
  · rw [if_pos e3]
    exact lc_3 hN hL hc hI
  rw [if_neg e3]
  by_cases e4 : X = nI 4
  · rw [if_pos e4]
    exact lc_4 hN hL hc hI
  rw [if_neg e4]
  by_cases e5 : X = nI 5
  · rw [if_pos e5]
    exact lc_5 hN hL hc hI
  rw [if_neg e5]
  by_cases e6 : X = nI 6
  · rw [if_pos e6]
    exact lc_6 hN hL hc hI
  rw [if_neg e6]
  by_cases e7 : X = nI 7
  · rw [if_pos e7]
    exact lc_7 hN hL hc hI
  rw [if_neg e7]
  by_cases e8 : X = nI 8
  · rw [if_pos e8]
    exact lc_8 hN hL hc hI
  rw [if_neg e8]
  by_cases e9 : X = nI 9
  · rw [if_pos e9]
    exact lc_9 hN hL hc hI
  rw [if_neg e9]
  by_cases e10 : X = nI 10
  · rw [if_pos e10]
    exact lc_10 hN hL hc hI
  rw [if_neg e10]
  by_cases e11 : X = nI 11
  · rw [if_pos e11]
    exact lc_11 hN hL hc hI
  rw [if_neg e11]
  by_cases e12 : X = nI 12
  · rw [if_pos e12]
    exact lc_12 hN hL hc hI
  rw [if_neg e12]
  by_cases e13 : X = nI 13
  · rw [if_pos e13]
    exact lc_13 hN hL hc hI
  rw [if_neg e13]
  by_cases e14 : X = nI 14
  · rw [if_pos e14]
    exact lc_14 hN hL hc hI
  rw [if_neg e14]
  by_cases e15 : X = nI 15
  · rw [if_pos e15]
    exact lc_15 hN hL hc hI
  rw [if_neg e15]
  by_cases e16 : X = nI 16
  · rw [if_pos e16]
    exact lc_16 hN hL hc hI
  rw [if_neg e16]
  by_cases e17 : X = nI 17
  · rw [if_pos e17]
    exact lc_17 hN hL hc hI
  rw [if_neg e17]
  by_cases e18 : X = nI 18
  · rw [if_pos e18]
    exact lc_18 hN hL hc hI
  rw [if_neg e18]
  by_cases e19 : X = nI 19
  · rw [if_pos e19]
    exact lc_19 hN hL hc hI
  rw [if_neg e19]
  by_cases e20 : X = nI 20
  · rw [if_pos e20]
    exact lc_20 hN hL hc hI
  rw [if_neg e20]
  by_cases e21 : X = nI 21
  · rw [if_pos e21]
    exact lc_21 hN hL hc hI
  rw [if_neg e21]
  by_cases e22 : X = nI 22
  · rw [if_pos e22]
    exact lc_22 hN hL hc hI
  rw [if_neg e22]
  by_cases e23 : X = nI 23
  · rw [if_pos e23]
    exact lc_23 hN hL hc hI
  rw [if_neg e23]
  by_cases e24 : X = nI 24
  · rw [if_pos e24]
    exact lc_24 hN hL hc hI
  rw [if_neg e24]
  by_cases e25 : X = nI 25
  · rw [if_pos e25]
    exact lc_25 hN hL hc hI
  rw [if_neg e25]
  by_cases e26 : X = nI 26
  · rw [if_pos e26]
    exact lc_26 hN hL hc hI
  rw [if_neg e26]
  by_cases e27 : X = nI 27
  · rw [if_pos e27]
    exact lc_27 hN hL hc hI
  rw [if_neg e27]
  by_cases e28 : X = nI 28
  · rw [if_pos e28]
    exact lc_28 hN hL hc hI
  rw [if_neg e28]
  by_cases e29 : X = nI 29
  · rw [if_pos e29]
    exact lc_29 hN hL hc hI
  rw [if_neg e29]
  by_cases e30 : X = nI 30
  · rw [if_pos e30]
    exact lc_30 hN hL hc hI
  rw [if_neg e30]
  by_cases e31 : X = nI 31
  · rw [if_pos e31]
    exact lc_31 hN hL hc hI
  rw [if_neg e31]
  by_cases e32 : X = nI 32
  · rw [if_pos e32]
    exact lc_32 hN hL hc hI
  rw [if_neg e32]
  by_cases e33 : X = nI 33
  · rw [if_pos e33]
    exact lc_33 hN hL hc hI
  rw [if_neg e33]
  by_cases e34 : X = nI 34
  · rw [if_pos e34]
    exact lc_34 hN hL hc hI
  rw [if_neg e34]
  by_cases e35 : X = nI 35
  · rw [if_pos e35]
    exact lc_35 hN hL hc hI
  rw [if_neg e35]
  by_cases e36 : X = nI 36
  · rw [if_pos e36]
    exact lc_36 hN hL hc hI
  rw [if_neg e36]
  by_cases e37 : X = nI 37
  · rw [if_pos e37]
    exact lc_37 hN hL hc hI
  rw [if_neg e37]
  by_cases e38 : X = nI 38
  · rw [if_pos e38]
    exact lc_38 hN hL hc hI
  rw [if_neg e38]
  by_cases e39 : X = nI 39
  · rw [if_pos e39]
    exact lc_39 hN hL hc hI
  rw [if_neg e39]
  by_cases e40 : X = nI 40
  · rw [if_pos e40]
    exact lc_40 hN hL hc hI
  rw [if_neg e40]
  by_cases e41 : X = nI 41
  · rw [if_pos e41]
    exact lc_41 hN hL hc hI
  rw [if_neg e41]
  by_cases e42 : X = nI 42
  · rw [if_pos e42]
    exact lc_42 hN hL hc hI
  rw [if_neg e42]
  by_cases e43 : X = nI 43
  · rw [if_pos e43]
    exact lc_43 hN hL hc hI
  rw [if_neg e43]
  by_cases e44 : X = nI 44
  · rw [if_pos e44]
    exact lc_44 hN hL hc hI
  rw [if_neg e44]
  by_cases e45 : X = nI 45
  · rw [if_pos e45]
    exact lc_45 hN hL hc hI
  rw [if_neg e45]
  by_cases e46 : X = nI 46
  · rw [if_pos e46]
    exact lc_46 hN hL hc hI
  rw [if_neg e46]
  by_cases e47 : X = nI 47
  · rw [if_pos e47]
    exact lc_47 hN hL hc hI
  rw [if_neg e47]
  exact ⟨h, rfl, ⟨ρ, δ, nc, nt, nf, na, n', nv, ne, la, nb, bo, no, cap, hI⟩, by omega, by omega⟩
theorem law_stop {c n : Nat} {h : xm_H} (hL : L ≤ 3072) (hc : L < c + 6) (hc2 : c ≤ 4000) (hI : zI L xs h) : f_L_law_28 N (n + 1) (nI c) h = some (1, h) := by
  obtain ⟨ρ, δ, nc, nt, nf, na, n', nv, ne, la, nb, bo, no, cap, hI⟩ := hI
  have hk := zlk hI
  show (xbr (xm_r h 182 0) fun ρ => xbr (xm_r h 161 3) fun δ => f_L_law_28B N ρ δ (f_L_law_28 N n) (nI c) h) = _
  rw [xs_rho hI.1, xbr_some, xs_del hI.1, xbr_some]
  unfold f_L_law_28B
  have h6 : (Int32.ofNat (xm_k h 0).2 - (6 : Int32)) < nI c := by
    rw [hk, Int32.lt_iff_toInt_lt]
    show (nI L - nI 6).toInt < (nI c).toInt
    rw [pk_sub_toInt (by omega) (by omega), nI_toInt (by omega)]
    omega
  rw [if_pos (by rw [hk]; exact ⟨show 100 ≤ 100 by decide, show 100 < 109 by decide⟩), if_pos h6]
theorem law_loop (hN : 20000 ≤ N) (hL : L ≤ 3072) : ∀ (d n c : Nat) (h : xm_H), L < c + 6 * d + 6 → c ≤ 3072 → d < n → zI L xs h → ∃ w, f_L_law_28 N n (nI c) h = some (1, w) ∧ xm_n w ≤ xm_n h + 300 * d ∧ xm_sz w ≤ xm_sz h + 6000 * d := by
  intro d
  induction d with
  | zero =>
    intro n c h hd hc hn hI
    obtain ⟨m, rfl⟩ : ∃ m, n = m + 1 := ⟨n - 1, by omega⟩
    exact ⟨h, law_stop hL (by omega) (by omega) hI, by omega, by omega⟩
  | succ d ih =>
    intro n c h hd hc hn hI
    obtain ⟨m, rfl⟩ : ∃ m, n = m + 1 := ⟨n - 1, by omega⟩
    by_cases h6 : L < c + 6
    · exact ⟨h, law_stop hL h6 (by omega) hI, by omega, by omega⟩
    · obtain ⟨h2, a1, a2, a3, a4⟩ := law_one (n := m) hN hL (show c + 6 ≤ L by omega) hI
      obtain ⟨w, b1, b2, b3⟩ := ih m (c + 6) h2 (by omega) (by omega) (by omega) a2
      exact ⟨w, a1.trans b1, by omega, by omega⟩
end Lp
