/-! checks of arguments on both sides; calls as the law makes them -/
theorem xi_new {h : xm_H} {κ : Nat × Nat} {a k : Nat} (ha : a < xm_n h) : xm_i (xm_new h κ) a k = xm_i h a k := if_neg (Nat.ne_of_lt ha)
theorem xl_eq {h : xm_H} {a k : Nat} {v : Int64} : xm_l (xm_sl h a k v) a k = v := by
  show (if a = a ∧ k = k then v else _) = v
  exact if_pos ⟨rfl, rfl⟩
theorem xi_sl {h : xm_H} {a k : Nat} {v : Int64} : xm_i (xm_sl h a k v) = xm_i h := rfl
theorem xi_sd {h : xm_H} {a k : Nat} {v : UInt64} : xm_i (xm_sd h a k v) = xm_i h := rfl
theorem zF.sz {A : Nat → Nat → Prop} {h h' : xm_H} (e : zF A h h') : xm_sz h' = xm_sz h := by
  unfold xm_sz
  rw [e.n]
  congr 1
  exact List.map_congr_left fun i _ => by rw [e.k]
/-- a call that changes nothing that lasts -/
def zRO (h h2 : xm_H) : Prop := zX zscr h h2 ∧ xm_n h2 ≤ xm_n h + 1 ∧ xm_sz h2 ≤ xm_sz h + 10
/-- a call of the class as the law makes it, then the reference's -/
def zOp (r1 : Option (Int32 × xm_H)) (r2 : xm_H → Option (Int32 × xm_H)) (P : xm_H → Prop) : Prop := ∃ v h1 b h2, r1 = some (v, h1) ∧ r2 h1 = some (b, h2) ∧ xm_i h2 302 4 = v ∧ (v = 0 → xm_l h2 316 0 = Int32.toInt64 b) ∧ P h2
theorem zop_bad {r1 : Option (Int32 × xm_H)} {r2 : xm_H → Option (Int32 × xm_H)} {h : xm_H} {k b : Int32} {κ : Nat × Nat} (hκ : xm_ks κ ≤ 10) (hk : ¬ k = 0) (e1 : r1 = some (k, xm_new h κ)) (e2 : r2 (xm_new h κ) = some (b, xm_si (xm_new h κ) 302 4 k)) : zOp r1 r2 (zRO h) := by
  have hF : zF zscr (xm_new h κ) (xm_si (xm_new h κ) 302 4 k) := zF.si (by unfold zscr; omega)
  refine ⟨k, _, b, _, e1, e2, xi_eq, fun z => absurd z hk, (zX.new κ).tr hF.x, ?_, ?_⟩
  · rw [hF.n]
    exact Nat.le_refl _
  · rw [hF.sz, xm_sz_new]
    omega
theorem zop_ok {r1 : Option (Int32 × xm_H)} {r2 : xm_H → Option (Int32 × xm_H)} {h h1 h2 : xm_H} {v : Int32} (e0 : zF zscr h h1) (e1 : r1 = some (0, xm_sl h1 316 0 (Int32.toInt64 v))) (e2 : r2 (xm_sl h1 316 0 (Int32.toInt64 v)) = some (v, h2)) (e3 : zF zscr (xm_sl h1 316 0 (Int32.toInt64 v)) h2) (e4 : xm_i h2 302 4 = 0) : zOp r1 r2 (zRO h) := by
  refine ⟨0, _, v, _, e1, e2, e4, fun _ => ?_, (e0.x.tr (zX.out _)).tr e3.x, ?_, ?_⟩
  · rw [e3.l]
    exact xl_eq
  · rw [e3.n]
    show xm_n h1 ≤ _
    rw [e0.n]
    omega
  · rw [e3.sz]
    show xm_sz h1 ≤ _
    rw [e0.sz]
    omega
theorem zlt_m1 {n : Nat} {x : Int32} (hn : n ≤ 20000) (h : nI n ≤ x) : nI n - 1 < x := by
  rw [Int32.lt_iff_toInt_lt, show (1 : Int32) = nI 1 from rfl, pk_sub_toInt (by omega) (by omega)]
  rw [Int32.le_iff_toInt_le, nI_toInt (by omega)] at h
  omega
theorem znlt_m1 {n c : Nat} (hn : n ≤ 20000) (h : c < n) : ¬ nI n - 1 < nI c := by
  rw [show (1 : Int32) = nI 1 from rfl, pk_sub (by omega)]
  exact nI_nlt (by omega) (by omega)
theorem zle_nlt {x y : Int32} (h : x ≤ y) : ¬ y < x := Int32.not_lt.mpr h
section Q
variable {h : xm_H} {ρ n : Nat} {x : Int32}
theorem zq_C0 (e : xm_i h ρ 7 = nI n) (hx : x < 0 ∨ nI n ≤ x) : f_X10_requireCampaign ρ x h = some (.inr (14, xm_n h), xm_new h (14, 0)) := by
  unfold f_X10_requireCampaign
  by_cases h0 : x < 0
  · rw [if_pos h0]
  · rw [if_neg h0, e, if_neg (zle_nlt (hx.resolve_left h0))]
theorem zq_C1 {c : Nat} (e : xm_i h ρ 7 = nI n) (hn : n ≤ 20000) (hc : c < n) : f_X10_requireCampaign ρ (nI c) h = some (.inl (), h) := by
  unfold f_X10_requireCampaign
  rw [if_neg (nI_pos (by omega)), e, if_pos (nI_lt hc (by omega))]
theorem zq_T0 (e : xm_i h ρ 5 = nI n) (hx : x < 0 ∨ nI n ≤ x) : f_X10_requireTag ρ x h = some (.inr (14, xm_n h), xm_new h (14, 0)) := by
  unfold f_X10_requireTag
  by_cases h0 : x < 0
  · rw [if_pos h0]
  · rw [if_neg h0, e, if_neg (zle_nlt (hx.resolve_left h0))]
theorem zq_T1 {c : Nat} (e : xm_i h ρ 5 = nI n) (hn : n ≤ 20000) (hc : c < n) : f_X10_requireTag ρ (nI c) h = some (.inl (), h) := by
  unfold f_X10_requireTag
  rw [if_neg (nI_pos (by omega)), e, if_pos (nI_lt hc (by omega))]
theorem zq_isC0 (e : xm_i h 308 14 = nI n) (hn : n ≤ 20000) (hx : x < 0 ∨ nI n ≤ x) : f_X11_isCampaign x h = some (0, h) := by
  rw [zs_isCampaign, e, zbt_0 (hx.imp id (zlt_m1 hn))]
theorem zq_isC1 {c : Nat} (e : xm_i h 308 14 = nI n) (hn : n ≤ 20000) (hc : c < n) : f_X11_isCampaign (nI c) h = some (1, h) := by
  rw [zs_isCampaign, e, zbt_1 (nI_pos (by omega)) (znlt_m1 hn hc)]
theorem zq_isT0 (e : xm_i h 308 7 = nI n) (hn : n ≤ 20000) (hx : x < 0 ∨ nI n ≤ x) : f_X11_isTag x h = some (0, h) := by
  rw [zs_isTag, e, zbt_0 (hx.imp id (zlt_m1 hn))]
theorem zq_isT1 {c : Nat} (e : xm_i h 308 7 = nI n) (hn : n ≤ 20000) (hc : c < n) : f_X11_isTag (nI c) h = some (1, h) := by
  rw [zs_isTag, e, zbt_1 (nI_pos (by omega)) (znlt_m1 hn hc)]
theorem zq_R0 {lo hi : Int32} (hx : x < lo ∨ hi < x) : f_X10_requireRange x lo hi h = some (.inr (15, xm_n h), xm_new h (15, 0)) := by
  unfold f_X10_requireRange
  by_cases h0 : x < lo
  · rw [if_pos h0]
  · rw [if_neg h0, if_pos (hx.resolve_left h0)]
theorem zq_R1 {lo hi : Int32} (h1 : ¬ x < lo) (h2 : ¬ hi < x) : f_X10_requireRange x lo hi h = some (.inl (), h) := by
  unfold f_X10_requireRange
  rw [if_neg h1, if_neg h2]
theorem zq_U0 (hx : x < 0 ∨ nI 16 ≤ x) : f_X10_requireUser x h = some (.inr (15, xm_n h), xm_new h (15, 0)) := by
  unfold f_X10_requireUser
  rw [zq_R0 (lo := 0) (hi := 15) (hx.imp id (fun z => zlt_m1 (n := 16) (by omega) z)), xe_inr]
theorem zq_U1 {u : Nat} (hu : u < 16) : f_X10_requireUser (nI u) h = some (.inl (), h) := by
  unfold f_X10_requireUser
  rw [zq_R1 (lo := 0) (hi := 15) (nI_pos (by omega)) (nI_nlt (a := 15) (b := u) (by omega) (by omega)), xe_inl]
theorem zq_isU0 (hx : x < 0 ∨ nI 16 ≤ x) : f_X11_isUser x h = some (0, h) := by
  rw [zs_isUser, zbt_0 (a := 0) (b := 15) (hx.imp id (fun z => zlt_m1 (n := 16) (by omega) z))]
theorem zq_isU1 {u : Nat} (hu : u < 16) : f_X11_isUser (nI u) h = some (1, h) := by
  rw [zs_isUser, zbt_1 (a := 0) (b := 15) (nI_pos (by omega)) (nI_nlt (a := 15) (b := u) (by omega) (by omega))]
/-- slots, from 1 to n -/
theorem zq_ix1 (x : Int32) (hn : n ≤ 20000) : (x < 1 ∨ nI n < x) ∨ ∃ k, 1 ≤ k ∧ k ≤ n ∧ x = nI k := by
  rcases pk_ix x (n := n + 1) (by omega) with h1 | h1 | ⟨j, h1, rfl⟩
  · left; left
    rw [Int32.lt_iff_toInt_lt] at *
    have : (1 : Int32).toInt = 1 := rfl
    have : (0 : Int32).toInt = 0 := rfl
    omega
  · left; right
    rw [Int32.lt_iff_toInt_lt, nI_toInt (by omega)]
    rw [Int32.le_iff_toInt_le, nI_toInt (by omega)] at h1
    omega
  · by_cases hj : j = 0
    · left; left
      rw [hj]
      decide
    · right
      exact ⟨j, by omega, by omega, rfl⟩
theorem zq_S0 (e : xm_i h ρ 3 = nI n) (hx : x < 1 ∨ nI n < x) : f_X10_requireSlots ρ x h = some (.inr (15, xm_n h), xm_new h (15, 0)) := by
  unfold f_X10_requireSlots
  rw [e, zq_R0 hx, xe_inr]
theorem zq_S1 {k : Nat} (e : xm_i h ρ 3 = nI n) (hn : n ≤ 20000) (h1 : 1 ≤ k) (h2 : k ≤ n) : f_X10_requireSlots ρ (nI k) h = some (.inl (), h) := by
  unfold f_X10_requireSlots
  rw [e, zq_R1 (lo := 1) (nI_nlt (b := 1) (by omega) (by omega)) (nI_nlt (by omega) (by omega)), xe_inl]
theorem zq_arS0 (e : xm_i h 308 2 = nI n) (hx : x < 1 ∨ nI n < x) : f_X11_areSlots x h = some (0, h) := by
  rw [zs_areSlots, e, zbt_0 hx]
theorem zq_arS1 {k : Nat} (e : xm_i h 308 2 = nI n) (hn : n ≤ 20000) (h1 : 1 ≤ k) (h2 : k ≤ n) : f_X11_areSlots (nI k) h = some (1, h) := by
  rw [zs_areSlots, e, zbt_1 (a := 1) (nI_nlt (b := 1) (by omega) (by omega)) (nI_nlt (by omega) (by omega))]
/-- one slot, from 0 on -/
theorem zq_s0 (e : xm_i h ρ 3 = nI n) (hn : n ≤ 20000) (hx : x < 0 ∨ nI n ≤ x) : f_X10_requireSlot ρ x h = some (.inr (15, xm_n h), xm_new h (15, 0)) := by
  unfold f_X10_requireSlot
  rw [e, zq_R0 (hx.imp id (zlt_m1 hn)), xe_inr]
theorem zq_s1 {k : Nat} (e : xm_i h ρ 3 = nI n) (hn : n ≤ 20000) (hk : k < n) : f_X10_requireSlot ρ (nI k) h = some (.inl (), h) := by
  unfold f_X10_requireSlot
  rw [e, zq_R1 (nI_pos (by omega)) (znlt_m1 hn hk), xe_inl]
end Q
section Get
variable {N ρ δ nc nt nf na n nv ne la nb bo no cap L : Nat} {xs : zV} {h : xm_H} {x : Int32}
theorem zInv.ra (hI : zInv ρ δ nc nt nf na n nv ne la nb bo no cap L xs h) : zRA ρ nc nt nf na n (xm_i h 303) (xm_i h 308) h := ⟨hI.2.2.2.1.1, hI.2.2.2.1.2.2.1, hI.2.2.2.1.2.2.2.1.2.2.2.2.1, hI.2.2.2.1.2.2.2.1.2.2.2.2.2.2.1⟩
theorem zInv.wt (hI : zInv ρ δ nc nt nf na n nv ne la nb bo no cap L xs h) : zWT nc nt nf na (xm_i h 308) := hI.2.2.2.1.2.1
theorem zInv.ws (hI : zInv ρ δ nc nt nf na n nv ne la nb bo no cap L xs h) : zWS nc nt n nv (xm_i h 303) := hI.2.2.2.1.2.2.2.1.1
theorem zInv.n160 (hI : zInv ρ δ nc nt nf na n nv ne la nb bo no cap L xs h) : n ≤ 160 := hI.2.2.2.1.2.2.2.1.2.2.1
theorem zInv.c7 (hI : zInv ρ δ nc nt nf na n nv ne la nb bo no cap L xs h) : xm_i h ρ 7 = nI nc := hI.ra.2.1.2.2.2.2.1.trans hI.wt.2.2.2.2.2.1
theorem zInv.t5 (hI : zInv ρ δ nc nt nf na n nv ne la nb bo no cap L xs h) : xm_i h ρ 5 = nI nt := hI.ra.2.1.2.2.2.1.trans hI.wt.2.2.2.2.2.2.1
theorem zInv.s3 (hI : zInv ρ δ nc nt nf na n nv ne la nb bo no cap L xs h) : xm_i h ρ 3 = nI nf := hI.ra.2.1.2.2.1.trans hI.wt.2.2.2.2.2.2.2.1
theorem zInv.T14 (hI : zInv ρ δ nc nt nf na n nv ne la nb bo no cap L xs h) : xm_i h 308 14 = nI nc := hI.wt.2.2.2.2.2.1
theorem zInv.T7 (hI : zInv ρ δ nc nt nf na n nv ne la nb bo no cap L xs h) : xm_i h 308 7 = nI nt := hI.wt.2.2.2.2.2.2.1
theorem zInv.T2 (hI : zInv ρ δ nc nt nf na n nv ne la nb bo no cap L xs h) : xm_i h 308 2 = nI nf := hI.wt.2.2.2.2.2.2.2.1
theorem zInv.d0 (hI : zInv ρ δ nc nt nf na n nv ne la nb bo no cap L xs h) : ¬ xm_i h 308 0 = 0 := by
  obtain ⟨d, d1, d2, d3⟩ := hI.wt.2.2.2.2.2.2.2.2.2.1
  rw [d3]
  exact nI_ne0 (by omega) (by omega)
theorem zks14 : xm_ks (14, 0) ≤ 10 := by decide
theorem zks15 : xm_ks (15, 0) ≤ 10 := by decide
theorem zks16 : xm_ks (16, 0) ≤ 10 := by decide
theorem zscr4 : zscr 302 4 := by unfold zscr; omega
theorem zo_bid (hI : zInv ρ δ nc nt nf na n nv ne la nb bo no cap L xs h) : zOp (f_L_bid ρ x h) (f_X11_bid x) (zRO h) := by
  have hn := hI.n
  have hnc := hI.wt.1
  rcases pk_ix x (n := nc) (by omega) with hx | hx | ⟨c, hc, rfl⟩
  rotate_left 2
  · have e0 : xm_i h 203 c = xm_i h 303 (3 + 6 * c) := (hI.ra.2.2.1.2.2.2.2.2 c hc).1
    refine zop_ok (h1 := h) (v := xm_i h 303 (3 + 6 * c)) zF.rf ?_ ?_ (zF.si zscr4) xi_eq
    · unfold f_L_bid f_X10_bid
      rw [zq_C1 hI.c7 (by omega) hc, xe_inl, if_pos (zb_in (by omega) (by decide)), nI_clamp (by omega), e0, xe_inl]
      rfl
    · unfold f_X11_bid f_X11_tell
      rw [zq_isC1 (n := nc) (by exact hI.T14) (by omega) hc, xb_some, zs_good1, xb_some, if_neg (by decide), zs_of0 (by omega), xb_some, xb_some, xi_ne (by decide), xi_sl]
  all_goals
    have hx' : x < 0 ∨ nI nc ≤ x := by first | exact Or.inl hx | exact Or.inr hx
    refine zop_bad (k := 1) (b := 0) zks14 (by decide) ?_ ?_
    · unfold f_L_bid f_X10_bid
      rw [zq_C0 hI.c7 hx', xe_inr, xe_inr]
      rfl
    · unfold f_X11_bid f_X11_tell
      rw [zq_isC0 (n := nc) (by rw [xi_new (by omega)]; exact hI.T14) (by omega) hx', xb_some, zs_good0, xb_some]
      rfl
theorem zo_budget (hI : zInv ρ δ nc nt nf na n nv ne la nb bo no cap L xs h) : zOp (f_L_budget ρ x h) (f_X11_budget x) (zRO h) := by
  have hn := hI.n
  have hnc := hI.wt.1
  rcases pk_ix x (n := nc) (by omega) with hx | hx | ⟨c, hc, rfl⟩
  rotate_left 2
  · have e0 : xm_i h 204 c = xm_i h 303 (3 + 6 * c + 1) := (hI.ra.2.2.1.2.2.2.2.2 c hc).2.1
    refine zop_ok (h1 := h) (v := xm_i h 303 (3 + 6 * c + 1)) zF.rf ?_ ?_ (zF.si zscr4) xi_eq
    · unfold f_L_budget f_X10_budget
      rw [zq_C1 hI.c7 (by omega) hc, xe_inl, if_pos (zb_in (by omega) (by decide)), nI_clamp (by omega), e0, xe_inl]
      rfl
    · unfold f_X11_budget f_X11_tell
      rw [zq_isC1 (n := nc) (by exact hI.T14) (by omega) hc, xb_some, zs_good1, xb_some, if_neg (by decide), zs_of1 (by omega), xb_some, xb_some, xi_ne (by decide), xi_sl]
  all_goals
    have hx' : x < 0 ∨ nI nc ≤ x := by first | exact Or.inl hx | exact Or.inr hx
    refine zop_bad (k := 1) (b := 0) zks14 (by decide) ?_ ?_
    · unfold f_L_budget f_X10_budget
      rw [zq_C0 hI.c7 hx', xe_inr, xe_inr]
      rfl
    · unfold f_X11_budget f_X11_tell
      rw [zq_isC0 (n := nc) (by rw [xi_new (by omega)]; exact hI.T14) (by omega) hx', xb_some, zs_good0, xb_some]
      rfl
theorem zo_mode (hI : zInv ρ δ nc nt nf na n nv ne la nb bo no cap L xs h) : zOp (f_L_mode ρ x h) (f_X11_mode x) (zRO h) := by
  have hn := hI.n
  have hnc := hI.wt.1
  rcases pk_ix x (n := nc) (by omega) with hx | hx | ⟨c, hc, rfl⟩
  rotate_left 2
  · have e0 : xm_i h 205 c = xm_i h 303 (3 + 6 * c + 4) := (hI.ra.2.2.1.2.2.2.2.2 c hc).2.2.1
    refine zop_ok (h1 := h) (v := xm_i h 303 (3 + 6 * c + 4)) zF.rf ?_ ?_ (zF.si zscr4) xi_eq
    · unfold f_L_mode f_X10_mode
      rw [zq_C1 hI.c7 (by omega) hc, xe_inl, if_pos (zb_in (by omega) (by decide)), nI_clamp (by omega), e0, xe_inl]
      rfl
    · unfold f_X11_mode f_X11_tell
      rw [zq_isC1 (n := nc) (by exact hI.T14) (by omega) hc, xb_some, zs_good1, xb_some, if_neg (by decide), zs_of4 (by omega), xb_some, xb_some, xi_ne (by decide), xi_sl]
  all_goals
    have hx' : x < 0 ∨ nI nc ≤ x := by first | exact Or.inl hx | exact Or.inr hx
    refine zop_bad (k := 1) (b := 0) zks14 (by decide) ?_ ?_
    · unfold f_L_mode f_X10_mode
      rw [zq_C0 hI.c7 hx', xe_inr, xe_inr]
      rfl
    · unfold f_X11_mode f_X11_tell
      rw [zq_isC0 (n := nc) (by rw [xi_new (by omega)]; exact hI.T14) (by omega) hx', xb_some, zs_good0, xb_some]
      rfl
theorem zo_spent (hI : zInv ρ δ nc nt nf na n nv ne la nb bo no cap L xs h) : zOp (f_L_spent ρ x h) (f_X11_spent x) (zRO h) := by
  have hn := hI.n
  have hnc := hI.wt.1
  rcases pk_ix x (n := nc) (by omega) with hx | hx | ⟨c, hc, rfl⟩
  rotate_left 2
  · have e0 : xm_i h 206 c = xm_i h 303 (3 + 6 * c + 2) := (hI.ra.2.2.1.2.2.2.2.2 c hc).2.2.2.1
    refine zop_ok (h1 := h) (v := xm_i h 303 (3 + 6 * c + 2)) zF.rf ?_ ?_ (zF.si zscr4) xi_eq
    · unfold f_L_spent f_X10_spent
      rw [zq_C1 hI.c7 (by omega) hc, xe_inl, if_pos (zb_in (by omega) (by decide)), nI_clamp (by omega), e0, xe_inl]
      rfl
    · unfold f_X11_spent f_X11_tell
      rw [zq_isC1 (n := nc) (by exact hI.T14) (by omega) hc, xb_some, zs_good1, xb_some, if_neg (by decide), zs_of2 (by omega), xb_some, xb_some, xi_ne (by decide), xi_sl]
  all_goals
    have hx' : x < 0 ∨ nI nc ≤ x := by first | exact Or.inl hx | exact Or.inr hx
    refine zop_bad (k := 1) (b := 0) zks14 (by decide) ?_ ?_
    · unfold f_L_spent f_X10_spent
      rw [zq_C0 hI.c7 hx', xe_inr, xe_inr]
      rfl
    · unfold f_X11_spent f_X11_tell
      rw [zq_isC0 (n := nc) (by rw [xi_new (by omega)]; exact hI.T14) (by omega) hx', xb_some, zs_good0, xb_some]
      rfl
theorem zo_multiplier (hI : zInv ρ δ nc nt nf na n nv ne la nb bo no cap L xs h) : zOp (f_L_multiplier ρ x h) (f_X11_multiplier x) (zRO h) := by
  have hn := hI.n
  have hnc := hI.wt.1
  rcases pk_ix x (n := nc) (by omega) with hx | hx | ⟨c, hc, rfl⟩
  rotate_left 2
  · have e0 : xm_i h 207 c = xm_i h 303 (3 + 6 * c + 3) := (hI.ra.2.2.1.2.2.2.2.2 c hc).2.2.2.2.1
    refine zop_ok (h1 := h) (v := xm_i h 303 (3 + 6 * c + 3)) zF.rf ?_ ?_ (zF.si zscr4) xi_eq
    · unfold f_L_multiplier f_X10_multiplier
      rw [zq_C1 hI.c7 (by omega) hc, xe_inl, if_pos (zb_in (by omega) (by decide)), nI_clamp (by omega), e0, xe_inl]
      rfl
    · unfold f_X11_multiplier f_X11_tell
      rw [zq_isC1 (n := nc) (by exact hI.T14) (by omega) hc, xb_some, zs_good1, xb_some, if_neg (by decide), zs_of3 (by omega), xb_some, xb_some, xi_ne (by decide), xi_sl]
  all_goals
    have hx' : x < 0 ∨ nI nc ≤ x := by first | exact Or.inl hx | exact Or.inr hx
    refine zop_bad (k := 1) (b := 0) zks14 (by decide) ?_ ?_
    · unfold f_L_multiplier f_X10_multiplier
      rw [zq_C0 hI.c7 hx', xe_inr, xe_inr]
      rfl
    · unfold f_X11_multiplier f_X11_tell
      rw [zq_isC0 (n := nc) (by rw [xi_new (by omega)]; exact hI.T14) (by omega) hx', xb_some, zs_good0, xb_some]
      rfl
end Get
