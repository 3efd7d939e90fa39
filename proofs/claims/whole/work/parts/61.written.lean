/-! written -/
set_option maxRecDepth 100000 in
theorem znar_c : ∀ k : Fin 256, ((Int32.toUInt32 (nI k.1 &&& 255)) % 65536).toInt32 = nI k.1 ∧ ((Int32.toUInt32 (nI k.1)) % 65536).toInt32 = nI k.1 ∧ vp_nar .char (nI k.1) = nI k.1 := by decide +kernel
theorem zshr0 (x : Int32) : x >>> ((0 : Int32) &&& 31) = x := by
  rw [show ((0 : Int32) &&& 31) = 0 from rfl]
  exact Int32.shiftRight_zero
section Wr
variable {N ρ δ nc nt nf na n nv ne la nb bo no cap L : Nat} {xs : zV} {h g h1 h2 : xm_H} {u v x y z w : Int32}
theorem zo_written (hI : zInv ρ δ nc nt nf na n nv ne la nb bo no cap L xs h) : zOp (f_L_written x h) (f_X11_written x) (zRO h) := by
  have hn := hI.n
  obtain ⟨o1, o2, o3, o4, o5, o6, o7, o8, o9, o10, o11, o12⟩ := hI.2.2.2.2.2.2.2
  have hb : ∀ g : xm_H, f_X11_between (Int32.toInt64 x) (0 : Int64) (Int32.toInt64 ((xm_i g 302 30) - (1 : Int32))) g = some (zbt x 0 (xm_i g 302 30 - 1), g) := fun g => by
    rw [show (0 : Int64) = (0 : Int32).toInt64 from rfl, zs_btw]
  rcases zix x (n := no) (by omega) with hx | ⟨j, hj, rfl⟩
  · refine zop_bad (k := 1) (b := 0) zks14 (by decide) ?_ ?_
    · unfold f_L_written f_X10_written
      by_cases h0 : x < 0
      · rw [if_pos h0, xe_inr]
        rfl
      · rw [if_neg h0]
        show xe (xb (f_J4_length_8abf5 h) _) _ _ = _
        rw [show f_J4_length_8abf5 h = some (xm_i h 300 3, h) from rfl, xb_some, o9, if_neg (zle_nlt (hx.resolve_left h0)), xe_inr]
        rfl
    · unfold f_X11_written
      rw [hb, xb_some, xi_new (by omega), o10, zbt_0 (hx.imp id (zlt_m1 (by omega))), zs_good0, xb_some]
      rfl
  · obtain ⟨p1, q, p2, p3, p4⟩ := o11 j hj
    rw [p4] at p1
    obtain ⟨c1, c2, c3⟩ := znar_c ⟨q, by omega⟩
    dsimp only at c1 c2 c3
    have hl : ¬ nI j < 0 := nI_pos (by omega)
    refine zop_ok (h1 := h) (h2 := xm_si (xm_sl h 316 0 (Int32.toInt64 (nI q))) 302 4 0) (v := nI q) zF.rf ?_ ?_ (zF.si zscr4) xi_eq
    · unfold f_L_written f_X10_written
      rw [if_neg hl, show f_J4_length_8abf5 h = some (xm_i h 300 3, h) from rfl, xb_some, o9, if_pos (nI_lt hj (by omega))]
      unfold f_J4_charAt_5068e f_J5_charAt_5068e f_J0_checkIndex_df160 f_J3_checkIndex_8e157
      have hcap : Int32.ofNat (xm_k h bo).2 = nI cap := by rw [o7]; rfl
      rw [o6, xbr_some, if_pos (by rw [o7]; exact ⟨show 100 ≤ 102 by decide, show 102 < 109 by decide⟩), hcap, o8, zshr0, o9, if_neg (nI_nlt o2 (by omega)), if_neg hl, if_pos (nI_lt hj (by omega)), xb_some, xb_some, if_pos rfl, if_pos (by rw [o7]), if_pos (by rw [o7]; exact zb_in (by omega) (by show cap < _; omega)), nI_clamp (by omega), p1, c1, if_pos c3, xb_some, if_pos c3, xb_some, if_pos c3, xe_inl]
      rfl
    · unfold f_X11_written
      rw [hb, xb_some, xi_sl, o10, zbt_1 hl (znlt_m1 (by omega) hj), zs_good1, xb_some, if_neg (by decide), if_pos (zb_in (by omega) (by decide)), nI_clamp (by omega), xi_ne (by decide), xi_sl, p4, c2, if_pos c3]
end Wr
