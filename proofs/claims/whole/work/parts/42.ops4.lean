/-! calls over the impressions: revenue, reach, frequency, topUser, meanPrice -/
def zMs (U C : zV) (c : Int32) : Nat → Nat
  | 0 => 0
  | n + 1 => if C n = c then zMs U C c n ||| 2 ^ (U n).toNatClampNeg else zMs U C c n
theorem zMs_congr {U C U' C' : zV} {c : Int32} : ∀ {n : Nat}, (∀ i, i < n → U i = U' i ∧ C i = C' i) → zMs U C c n = zMs U' C' c n := by
  intro n
  induction n with
  | zero => intro _; rfl
  | succ n ih =>
    intro h
    unfold zMs
    rw [ih (fun i hi => h i (by omega)), (h n (by omega)).1, (h n (by omega)).2]
theorem zMs_lt {U C : zV} {c : Int32} : ∀ {n : Nat}, (∀ i, i < n → zB 0 15 (U i)) → zMs U C c n < 65536 := by
  intro n
  induction n with
  | zero => intro _; show 0 < 65536; omega
  | succ n ih =>
    intro h
    have h1 := ih (fun i hi => h i (by omega))
    unfold zMs
    split
    · obtain ⟨u, u1, u2, u3⟩ := h n (by omega)
      rw [u3, nI_clamp (by omega)]
      have h2c : (2 : Nat) ^ u < 2 ^ 16 := Nat.pow_lt_pow_right (by omega) (by omega)
      exact Nat.or_lt_two_pow (n := 16) h1 h2c
    · exact h1
theorem zland16 {x A B : Nat} (hx : x < 65536) (hB : B < 65536) : x &&& (65536 * A + B) = x &&& B := by
  have hlb : x &&& B < 2 ^ 16 := Nat.lt_of_le_of_lt Nat.and_le_left hx
  apply Nat.eq_of_testBit_eq
  intro j
  rw [Nat.testBit_and, Nat.testBit_and, show 65536 * A + B = 2 ^ 16 * A + B from rfl, Nat.testBit_two_pow_mul_add A hB]
  by_cases hj : j < 16
  · rw [if_pos hj]
  · have : x.testBit j = false := Nat.testBit_lt_two_pow (Nat.lt_of_lt_of_le hx (by
      have : 2 ^ 16 ≤ 2 ^ j := Nat.pow_le_pow_right (by omega) (by omega)
      exact this))
    rw [this]
    rfl
theorem zj_bitCount {m : Nat} {h : xm_H} (hm : m < 65536) : f_J6_bitCount_0f7a4 (nI m) h = some (nI (zpc m), h) := by
  obtain ⟨a, b, ha, hb, hab⟩ : ∃ a b, a < 256 ∧ b < 256 ∧ m = 256 * a + b := ⟨m / 256, m % 256, by omega, by omega, by omega⟩
  have a1 := zb1_lt a ha
  have b1 := zb1_lt b hb
  have a2 := zb2_lt a ha
  have b2 := zb2_lt b hb
  have a3 : zb3 (zb2 (zb1 a)) < 16 := Nat.mod_lt _ (by omega)
  have b3 : zb3 (zb2 (zb1 b)) < 16 := Nat.mod_lt _ (by omega)
  have n1 : zbn1 m = 256 * zb1 a + zb1 b := by rw [hab]; exact zbn1_b ha hb
  have n2 : zbn2 (zbn1 m) = 256 * zb2 (zb1 a) + zb2 (zb1 b) := by rw [n1]; exact zbn2_b a1.1 b1.1
  have n3 : zbn3 (zbn2 (zbn1 m)) = 256 * zb3 (zb2 (zb1 a)) + zb3 (zb2 (zb1 b)) := by rw [n2]; exact zbn3_b a2.1 b2.1 a2.2 b2.2
  have hle : m / 2 &&& 21845 ≤ m := Nat.le_trans Nat.and_le_left (Nat.div_le_self _ _)
  have e1 : ((Int32.toUInt32 (nI m)) >>> ((Int32.toUInt32 (1 : Int32)) &&& Int32.toUInt32 31)).toInt32 = nI (m / 2) := pk_ushrN (by omega) 1 1 (by decide)
  have e2 : nI (m / 2) &&& (1431655765 : Int32) = nI (m / 2 &&& 21845) := by
    rw [show (1431655765 : Int32) = nI (65536 * 21845 + 21845) from rfl, zb_and, zland16 (by omega) (by omega)]
  have e3 : nI m - nI (m / 2 &&& 21845) = nI (zbn1 m) := pk_sub hle
  have e4 : nI (zbn1 m) &&& (858993459 : Int32) = nI (zbn1 m &&& 13107) := by
    rw [show (858993459 : Int32) = nI (65536 * 13107 + 13107) from rfl, zb_and, zland16 (by omega) (by omega)]
  have e5 : ((Int32.toUInt32 (nI (zbn1 m))) >>> ((Int32.toUInt32 (2 : Int32)) &&& Int32.toUInt32 31)).toInt32 = nI (zbn1 m / 4) := pk_ushrN (by omega) 2 2 (by decide)
  have e6 : nI (zbn1 m / 4) &&& (858993459 : Int32) = nI (zbn1 m / 4 &&& 13107) := by
    rw [show (858993459 : Int32) = nI (65536 * 13107 + 13107) from rfl, zb_and, zland16 (by omega) (by omega)]
  have e7 : nI (zbn1 m &&& 13107) + nI (zbn1 m / 4 &&& 13107) = nI (zbn2 (zbn1 m)) := nI_add _ _
  have e8 : ((Int32.toUInt32 (nI (zbn2 (zbn1 m)))) >>> ((Int32.toUInt32 (4 : Int32)) &&& Int32.toUInt32 31)).toInt32 = nI (zbn2 (zbn1 m) / 16) := pk_ushrN (by omega) 4 4 (by decide)
  have e9 : nI (zbn2 (zbn1 m)) + nI (zbn2 (zbn1 m) / 16) = nI (zbn2 (zbn1 m) + zbn2 (zbn1 m) / 16) := nI_add _ _
  have e10 : nI (zbn2 (zbn1 m) + zbn2 (zbn1 m) / 16) &&& (252645135 : Int32) = nI (zbn3 (zbn2 (zbn1 m))) := by
    rw [show (252645135 : Int32) = nI (65536 * 3855 + 3855) from rfl, zb_and, zland16 (by omega) (by omega)]
    rfl
  have e11 : ((Int32.toUInt32 (nI (zbn3 (zbn2 (zbn1 m))))) >>> ((Int32.toUInt32 (8 : Int32)) &&& Int32.toUInt32 31)).toInt32 = nI (zbn3 (zbn2 (zbn1 m)) / 256) := pk_ushrN (by omega) 8 8 (by decide)
  have e12 : nI (zbn3 (zbn2 (zbn1 m))) + nI (zbn3 (zbn2 (zbn1 m)) / 256) = nI (zbn3 (zbn2 (zbn1 m)) + zbn3 (zbn2 (zbn1 m)) / 256) := nI_add _ _
  have e13 : ((Int32.toUInt32 (nI (zbn3 (zbn2 (zbn1 m)) + zbn3 (zbn2 (zbn1 m)) / 256))) >>> ((Int32.toUInt32 (16 : Int32)) &&& Int32.toUInt32 31)).toInt32 = nI 0 := by
    rw [pk_ushrN (by omega) 16 16 (by decide)]
    rw [show (zbn3 (zbn2 (zbn1 m)) + zbn3 (zbn2 (zbn1 m)) / 256) / 2 ^ 16 = 0 by omega]
  unfold f_J6_bitCount_0f7a4
  rw [e1, e2, e3, e4, e5, e6, e7, e8, e9, e10, e11, e12, e13, nI_add, Nat.add_zero, show (63 : Int32) = nI 63 from rfl, zb_and, ← zbn_pc hm]
  rfl
theorem zsm_bd {f : Nat → Int32} {B : Nat} : ∀ {n : Nat}, (∀ i, i < n → zB 0 B (f i)) → ∃ k, k ≤ n * B ∧ zsm f n = nI k := by
  intro n
  induction n with
  | zero => intro _; exact ⟨0, by omega, rfl⟩
  | succ n ih =>
    intro h
    obtain ⟨k, k1, k2⟩ := ih (fun i hi => h i (by omega))
    obtain ⟨q, q1, q2, q3⟩ := h n (by omega)
    refine ⟨k + q, by rw [Nat.succ_mul]; omega, ?_⟩
    show zsm f n + f n = _
    rw [k2, q3, nI_add]
def zOpD (r1 : Option (Int32 × xm_H)) (r2 : xm_H → Option (UInt64 × xm_H)) (P : xm_H → Prop) : Prop := ∃ v h1 b h2, r1 = some (v, h1) ∧ r2 h1 = some (b, h2) ∧ xm_i h2 302 4 = v ∧ (v = 0 → xm_d h2 317 0 = b) ∧ P h2
theorem zopD_bad {r1 : Option (Int32 × xm_H)} {r2 : xm_H → Option (UInt64 × xm_H)} {h : xm_H} {k : Int32} {b : UInt64} {κ : Nat × Nat} (hκ : xm_ks κ ≤ 10) (hk : ¬ k = 0) (e1 : r1 = some (k, xm_new h κ)) (e2 : r2 (xm_new h κ) = some (b, xm_si (xm_new h κ) 302 4 k)) : zOpD r1 r2 (zRO h) := by
  have hF : zF zscr (xm_new h κ) (xm_si (xm_new h κ) 302 4 k) := zF.si (by unfold zscr; omega)
  refine ⟨k, _, b, _, e1, e2, xi_eq, fun z => absurd z hk, (zX.new κ).tr hF.x, ?_, ?_⟩
  · rw [hF.n]
    exact Nat.le_refl _
  · rw [hF.sz, xm_sz_new]
    omega
theorem zopD_ok {r1 : Option (Int32 × xm_H)} {r2 : xm_H → Option (UInt64 × xm_H)} {h h2 : xm_H} {v : UInt64} (e1 : r1 = some (0, xm_sd h 317 0 v)) (e2 : r2 (xm_sd h 317 0 v) = some (v, h2)) (e3 : zF zscr (xm_sd h 317 0 v) h2) (e4 : xm_i h2 302 4 = 0) : zOpD r1 r2 (zRO h) := by
  refine ⟨0, _, v, _, e1, e2, e4, fun _ => ?_, (zX.outD _).tr e3.x, ?_, ?_⟩
  · show h2.2.2.2.2.1 317 0 = v
    rw [e3.2.2.1]
    show (xm_u2 h.2.2.2.2.1 317 0 v) 317 0 = v
    unfold xm_u2
    exact if_pos ⟨rfl, rfl⟩
  · rw [e3.n]
    show xm_n h ≤ _
    omega
  · rw [e3.sz]
    show xm_sz h ≤ _
    omega
section Imp
variable {N ρ δ nc nt nf na n nv ne la nb bo no cap L : Nat} {xs : zV} {S T : zV} {h : xm_H} {x y z w : Int32}
theorem zc_priceSum {a b : Nat} (hN : 1000 ≤ N) (hab : a ≤ b) (hb : b ≤ 400) : f_X4_priceSum N (nI a) (nI b) h = some (zsm (fun j => xm_i h 214 (a + j)) (b - a), h) := by
  unfold f_X4_priceSum
  refine zlp0 (N := N) (F := fun n s => f_X4_priceSum_5 N (nI b) n s.1 s.2.1 s.2.2) (I := fun i s => s = (zsm (fun j => xm_i h 214 (a + j)) i, nI (a + i), h)) (L := b - a) (s := (0, nI a, h)) (by omega) rfl ?_ ?_
  · intro m i s hi hs
    subst hs
    refine ⟨_, rfl, ?_⟩
    show f_X4_priceSum_5B N (nI b) (f_X4_priceSum_5 N (nI b) m) (zsm (fun j => xm_i h 214 (a + j)) i) (nI (a + i)) h = f_X4_priceSum_5 N (nI b) m (zsm (fun j => xm_i h 214 (a + j)) i + xm_i h 214 (a + i)) (nI (a + (i + 1))) h
    unfold f_X4_priceSum_5B
    rw [if_pos (nI_lt (by omega) (by omega)), if_pos (zb_in (by omega) (by decide)), nI_clamp (by omega), nI_1]
    rfl
  · intro m s hs
    subst hs
    show f_X4_priceSum_5B N (nI b) (f_X4_priceSum_5 N (nI b) m) _ (nI (a + (b - a))) h = _
    unfold f_X4_priceSum_5B
    rw [show a + (b - a) = b by omega, if_neg (zlt_irr _)]
theorem zs_revenue {g : xm_H} (hN : 1000 ≤ N) (hn : n ≤ 400) (hS : xm_i g 303 1 = nI n) : f_X11_revenue N g = some (zsm (fun j => xm_i g 303 (57 + 5 * j + 4)) n, xm_si g 302 4 0) := by
  unfold f_X11_revenue
  simp only [xl]
  have e : xm_i (xm_si g 302 4 0) 303 = xm_i g 303 := zU_ot (by decide)
  refine zlp0 (N := N) (F := fun n s => f_X11_revenue_9 N n s.1 s.2.1 s.2.2) (I := fun i s => s = (zsm (fun j => xm_i g 303 (57 + 5 * j + 4)) i, nI i, xm_si g 302 4 0)) (L := n) (s := (0, 0, xm_si g 302 4 0)) (by omega) rfl ?_ ?_
  · intro m i s hi hs
    subst hs
    refine ⟨_, rfl, ?_⟩
    show f_X11_revenue_9B N (f_X11_revenue_9 N m) (zsm (fun j => xm_i g 303 (57 + 5 * j + 4)) i) (nI i) (xm_si g 302 4 0) = f_X11_revenue_9 N m (zsm (fun j => xm_i g 303 (57 + 5 * j + 4)) i + xm_i g 303 (57 + 5 * i + 4)) (nI (i + 1)) (xm_si g 302 4 0)
    unfold f_X11_revenue_9B
    rw [e, hS, if_pos (nI_lt hi (by omega)), zs_im4 (by omega), xb_some, e, nI_1]
  · intro m s hs
    subst hs
    show f_X11_revenue_9B N (f_X11_revenue_9 N m) _ (nI n) (xm_si g 302 4 0) = _
    unfold f_X11_revenue_9B
    rw [e, hS, if_neg (zlt_irr _)]
theorem zInv.e2 (hI : zInv ρ δ nc nt nf na n nv ne la nb bo no cap L xs h) : xm_i h 201 2 = nI n := hI.ra.2.2.1.2.2.1.trans hI.ws.2.2.2.1
theorem zo_revenue (hN : 1000 ≤ N) (hI : zInv ρ δ nc nt nf na n nv ne la nb bo no cap L xs h) : zOq (f_X10_revenue N h) (f_X11_revenue N) (zRO h) := by
  have hn := hI.n160
  refine zoq_ok (v := zsm (fun j => xm_i h 303 (57 + 5 * j + 4)) n) (h2 := xm_si h 302 4 0) ?_ (zs_revenue hN (by omega) hI.ws.2.2.2.1) (zF.si zscr4)
  unfold f_X10_revenue
  rw [hI.e2, show (0 : Int32) = nI 0 from rfl, zc_priceSum hN (by omega) (by omega), xb_some, Nat.sub_zero]
  rw [zsm_congr (g := fun j => xm_i h 303 (57 + 5 * j + 4)) (fun i hi => by rw [Nat.zero_add]; exact (hI.ra.2.2.2 i hi).2.2.2.2)]
theorem zc_reached {c : Int32} {b : Nat} (hN : 1000 ≤ N) (hb : b ≤ 400) (hU : ∀ i, i < b → zB 0 15 (xm_i h 211 i)) : f_X4_usersReached N c (nI b) h = some (nI (zpc (zMs (xm_i h 211) (xm_i h 212) c b)), h) := by
  unfold f_X4_usersReached
  obtain ⟨K, hK⟩ : ∃ K, K = (fun (e1 : Int32) (h2 : xm_H) => (xb (f_J6_bitCount_0f7a4 e1 h2) fun v3 h4 => (some (v3, h4)))) := ⟨_, rfl⟩
  rw [← hK]
  refine zlp0 (N := N) (F := fun n s => f_X4_usersReached_5 N c (nI b) K n s.1 s.2.1 s.2.2) (I := fun i s => s = (nI (zMs (xm_i h 211) (xm_i h 212) c i), nI i, h)) (L := b) (s := (0, 0, h)) (by omega) rfl ?_ ?_
  · intro m i s hi hs
    subst hs
    refine ⟨_, rfl, ?_⟩
    show f_X4_usersReached_5B N c (nI b) K (f_X4_usersReached_5 N c (nI b) K m) (nI (zMs (xm_i h 211) (xm_i h 212) c i)) (nI i) h = f_X4_usersReached_5 N c (nI b) K m (nI (if xm_i h 212 i = c then zMs (xm_i h 211) (xm_i h 212) c i ||| 2 ^ (xm_i h 211 i).toNatClampNeg else zMs (xm_i h 211) (xm_i h 212) c i)) (nI (i + 1)) h
    unfold f_X4_usersReached_5B
    rw [if_pos (nI_lt hi (by omega)), if_pos (zb_in (by omega) (by decide))]
    simp only [nI_clamp (show i < 2 ^ 31 by omega), nI_1]
    obtain ⟨u, u1, u2, u3⟩ := hU i hi
    by_cases hc : xm_i h 212 i = c
    · rw [if_pos hc, if_pos hc, u3, nI_clamp (by omega), zb_1sh u (by omega), zb_or]
    · rw [if_neg hc, if_neg hc]
  · intro m s hs
    subst hs
    show f_X4_usersReached_5B N c (nI b) K (f_X4_usersReached_5 N c (nI b) K m) (nI (zMs (xm_i h 211) (xm_i h 212) c b)) (nI b) h = _
    unfold f_X4_usersReached_5B
    rw [if_neg (zlt_irr _), hK]
    dsimp only
    rw [zj_bitCount (zMs_lt hU), xb_some]
theorem zbit0 {m u : Nat} (hm : m < 65536) (hu : u < 16) : ((nI m >>> (nI u &&& 31)) &&& 1 = 0) ↔ m.testBit u = false := by
  have hs : ((nI u &&& 31).toBitVec.smod 32).toNat = u := by
    revert u
    decide
  rw [pk_shrN (by omega) (nI u &&& 31) u hs, show (1 : Int32) = nI 1 from rfl, zb_and, Nat.and_one_is_mod]
  have h2 : m / 2 ^ u % 2 < 2 := Nat.mod_lt _ (by omega)
  rw [show (0 : Int32) = nI 0 from rfl, nI_eq (by omega) (by omega), Nat.testBit_eq_decide_div_mod_eq]
  constructor
  · intro h
    rw [h]
    rfl
  · intro h
    have := of_decide_eq_false h
    omega
theorem zs_reachOf {c : Nat} {g : xm_H} (hN : 1000 ≤ N) (hn : n ≤ 400) (hS : xm_i g 303 1 = nI n) (hU : ∀ i, i < n → zB 0 15 (xm_i g 303 (57 + 5 * i + 1))) : f_X11_reachOf N (nI c) g = some (nI (zpc (zMs (fun k => xm_i g 303 (57 + 5 * k + 1)) (fun k => xm_i g 303 (57 + 5 * k + 2)) (nI c) n)), g) := by
  unfold f_X11_reachOf
  refine zlp0 (N := N) (F := fun n s => f_X11_reachOf_7 N (nI c) n s.1 s.2.1 s.2.2.1 s.2.2.2) (I := fun i s => s = (nI (zMs (fun k => xm_i g 303 (57 + 5 * k + 1)) (fun k => xm_i g 303 (57 + 5 * k + 2)) (nI c) i), nI (zpc (zMs (fun k => xm_i g 303 (57 + 5 * k + 1)) (fun k => xm_i g 303 (57 + 5 * k + 2)) (nI c) i)), nI i, g)) (L := n) (s := (0, 0, 0, g)) (by omega) (by
    have : zpc 0 = 0 := by decide
    show _ = (nI 0, nI (zpc 0), nI 0, g)
    rw [this]
    rfl) ?_ ?_
  · intro m i s hi hs
    subst hs
    refine ⟨_, rfl, ?_⟩
    have hlt : zMs (fun k => xm_i g 303 (57 + 5 * k + 1)) (fun k => xm_i g 303 (57 + 5 * k + 2)) (nI c) i < 65536 := zMs_lt (fun j hj => hU j (by omega))
    have hsc : zMs (fun k => xm_i g 303 (57 + 5 * k + 1)) (fun k => xm_i g 303 (57 + 5 * k + 2)) (nI c) (i + 1) = if xm_i g 303 (57 + 5 * i + 2) = nI c then zMs (fun k => xm_i g 303 (57 + 5 * k + 1)) (fun k => xm_i g 303 (57 + 5 * k + 2)) (nI c) i ||| 2 ^ (xm_i g 303 (57 + 5 * i + 1)).toNatClampNeg else zMs (fun k => xm_i g 303 (57 + 5 * k + 1)) (fun k => xm_i g 303 (57 + 5 * k + 2)) (nI c) i := rfl
    rw [hsc]
    generalize zMs (fun k => xm_i g 303 (57 + 5 * k + 1)) (fun k => xm_i g 303 (57 + 5 * k + 2)) (nI c) i = ms at *
    show f_X11_reachOf_7B N (nI c) (f_X11_reachOf_7 N (nI c) m) (nI ms) (nI (zpc ms)) (nI i) g = f_X11_reachOf_7 N (nI c) m _ _ (nI (i + 1)) g
    generalize f_X11_reachOf_7 N (nI c) m = rec
    unfold f_X11_reachOf_7B
    rw [hS, if_pos (nI_lt hi (by omega)), zs_im1 (by omega), xb_some, zs_im2 (by omega), xb_some]
    obtain ⟨u, u1, u2, u3⟩ := hU i hi
    dsimp only
    by_cases hc : xm_i g 303 (57 + 5 * i + 2) = nI c
    · rw [if_pos hc, if_pos hc, u3, nI_clamp (by omega), zpc_or (by omega)]
      by_cases hb : ms.testBit u = false
      · rw [if_pos ((zbit0 hlt (by omega)).mpr hb), if_pos hb, zb_1sh u (by omega), zb_or, nI_1, nI_1]
      · rw [if_neg (fun z => hb ((zbit0 hlt (by omega)).mp z)), if_neg hb, Nat.add_zero, nI_1]
        have : ms ||| 2 ^ u = ms := by
          apply Nat.eq_of_testBit_eq
          intro j
          rw [Nat.testBit_or, Nat.testBit_two_pow]
          by_cases hj : u = j
          · subst hj
            have : ms.testBit u = true := by simpa using hb
            rw [this]
            rfl
          · simp [hj]
        rw [this]
    · rw [if_neg hc, if_neg hc, nI_1]
  · intro m s hs
    subst hs
    show f_X11_reachOf_7B N (nI c) (f_X11_reachOf_7 N (nI c) m) _ _ (nI n) g = _
    unfold f_X11_reachOf_7B
    rw [hS, if_neg (zlt_irr _)]
theorem zInv.ms {c : Int32} (hI : zInv ρ δ nc nt nf na n nv ne la nb bo no cap L xs h) : zMs (xm_i h 211) (xm_i h 212) c n = zMs (fun k => xm_i h 303 (57 + 5 * k + 1)) (fun k => xm_i h 303 (57 + 5 * k + 2)) c n := zMs_congr (fun i hi => ⟨(hI.ra.2.2.2 i hi).2.1, (hI.ra.2.2.2 i hi).2.2.1⟩)
theorem zInv.uB (hI : zInv ρ δ nc nt nf na n nv ne la nb bo no cap L xs h) : ∀ i, i < n → zB 0 15 (xm_i h 303 (57 + 5 * i + 1)) := fun i hi => (hI.ws.2.2.2.2.2.2.2 i hi).2.1
theorem zInv.uB2 (hI : zInv ρ δ nc nt nf na n nv ne la nb bo no cap L xs h) : ∀ i, i < n → zB 0 15 (xm_i h 211 i) := fun i hi => by rw [(hI.ra.2.2.2 i hi).2.1]; exact hI.uB i hi
theorem zo_reach (hN : 1000 ≤ N) (hI : zInv ρ δ nc nt nf na n nv ne la nb bo no cap L xs h) : zOp (f_L_reach N ρ x h) (f_X11_reach N x) (zRO h) := by
  have hn := hI.n
  have hnc := hI.wt.1
  have h160 := hI.n160
  rcases zix x (n := nc) (by omega) with hx | ⟨c, hc, rfl⟩
  · refine zop_bad (k := 1) (b := 0) zks14 (by decide) ?_ ?_
    · unfold f_L_reach f_X10_reach
      rw [zq_C0 hI.c7 hx, xe_inr, xe_inr]
      rfl
    · unfold f_X11_reach
      rw [zq_isC0 (n := nc) (by rw [xi_new (by omega)]; exact hI.T14) (by omega) hx, xb_some, zs_good0, xb_some]
      rfl
  · refine zop_ok (h1 := h) (v := nI (zpc (zMs (fun k => xm_i h 303 (57 + 5 * k + 1)) (fun k => xm_i h 303 (57 + 5 * k + 2)) (nI c) n))) zF.rf ?_ ?_ (zF.si zscr4) xi_eq
    · unfold f_L_reach f_X10_reach
      rw [zq_C1 hI.c7 (by omega) hc, xe_inl, hI.e2, zc_reached hN (by omega) hI.uB2, xb_some, xe_inl, hI.ms]
      rfl
    · have e := fun v : Int64 => show xm_i (xm_si (xm_sl h 316 0 v) 302 4 0) 303 = xm_i h 303 from by rw [zU_ot (by decide), xi_sl]
      have hr := fun v => zs_reachOf (N := N) (n := n) (c := c) (g := xm_si (xm_sl h 316 0 v) 302 4 0) hN (by omega) (by rw [e]; exact hI.ws.2.2.2.1) (by rw [e]; exact hI.uB)
      unfold f_X11_reach
      rw [zq_isC1 (n := nc) (by exact hI.T14) (by omega) hc, xb_some, zs_good1, xb_some, if_neg (by decide), hr, xb_some, e]
theorem zc_countOf {c : Int32} {a b : Nat} (hN : 1000 ≤ N) (hab : a ≤ b) (hb : b ≤ 400) : f_X4_countOf N c (nI a) (nI b) h = some (nI (zct (fun j => decide (xm_i h 212 (a + j) = c)) (b - a)), h) := by
  unfold f_X4_countOf
  refine zlp0 (N := N) (F := fun n s => f_X4_countOf_6 N c (nI b) n s.1 s.2.1 s.2.2) (I := fun i s => s = (nI (zct (fun j => decide (xm_i h 212 (a + j) = c)) i), nI (a + i), h)) (L := b - a) (s := (0, nI a, h)) (by omega) rfl ?_ ?_
  · intro m i s hi hs
    subst hs
    refine ⟨_, rfl, ?_⟩
    show f_X4_countOf_6B N c (nI b) (f_X4_countOf_6 N c (nI b) m) (nI (zct (fun j => decide (xm_i h 212 (a + j) = c)) i)) (nI (a + i)) h = f_X4_countOf_6 N c (nI b) m (nI (zct (fun j => decide (xm_i h 212 (a + j) = c)) i + (if decide (xm_i h 212 (a + i) = c) = true then 1 else 0))) (nI (a + (i + 1))) h
    unfold f_X4_countOf_6B
    rw [if_pos (nI_lt (by omega) (by omega)), if_pos (zb_in (by omega) (by decide)), nI_clamp (by omega)]
    by_cases hc : xm_i h 212 (a + i) = c
    · rw [if_pos hc, if_pos (decide_eq_true hc), nI_1, nI_1]
      rfl
    · rw [if_neg hc, if_neg (by simpa using hc), nI_1]
      rfl
  · intro m s hs
    subst hs
    show f_X4_countOf_6B N c (nI b) (f_X4_countOf_6 N c (nI b) m) _ (nI (a + (b - a))) h = _
    unfold f_X4_countOf_6B
    rw [show a + (b - a) = b by omega, if_neg (zlt_irr _)]
theorem zs_impressionsOf {c : Int32} {g : xm_H} (hN : 1000 ≤ N) (hn : n ≤ 400) (hS : xm_i g 303 1 = nI n) : f_X11_impressionsOf N c g = some (nI (zct (fun j => decide (xm_i g 303 (57 + 5 * j + 2) = c)) n), g) := by
  unfold f_X11_impressionsOf
  refine zlp0 (N := N) (F := fun n s => f_X11_impressionsOf_4 N c n s.1 s.2.1 s.2.2) (I := fun i s => s = (nI (zct (fun j => decide (xm_i g 303 (57 + 5 * j + 2) = c)) i), nI i, g)) (L := n) (s := (0, 0, g)) (by omega) rfl ?_ ?_
  · intro m i s hi hs
    subst hs
    refine ⟨_, rfl, ?_⟩
    show f_X11_impressionsOf_4B N c (f_X11_impressionsOf_4 N c m) (nI (zct (fun j => decide (xm_i g 303 (57 + 5 * j + 2) = c)) i)) (nI i) g = f_X11_impressionsOf_4 N c m (nI (zct (fun j => decide (xm_i g 303 (57 + 5 * j + 2) = c)) i + (if decide (xm_i g 303 (57 + 5 * i + 2) = c) = true then 1 else 0))) (nI (i + 1)) g
    unfold f_X11_impressionsOf_4B
    rw [hS, if_pos (nI_lt hi (by omega)), zs_im2 (by omega), xb_some]
    by_cases hc : xm_i g 303 (57 + 5 * i + 2) = c
    · rw [if_pos hc, if_pos (decide_eq_true hc), nI_1, nI_1]
    · rw [if_neg hc, if_neg (by simpa using hc), zx_0, nI_1]
  · intro m s hs
    subst hs
    show f_X11_impressionsOf_4B N c (f_X11_impressionsOf_4 N c m) _ (nI n) g = _
    unfold f_X11_impressionsOf_4B
    rw [hS, if_neg (zlt_irr _)]
theorem zpc_le (m : Nat) : zpc m ≤ 16 := zct_le _ _
theorem zo_frequency (hN : 1000 ≤ N) (hI : zInv ρ δ nc nt nf na n nv ne la nb bo no cap L xs h) : zOpD (f_L_frequency N ρ x h) (f_X11_frequency N x) (zRO h) := by
  have hn := hI.n
  have hnc := hI.wt.1
  have h160 := hI.n160
  rcases zix x (n := nc) (by omega) with hx | ⟨c, hc, rfl⟩
  · refine zopD_bad (k := 1) (b := FP.dconst0) zks14 (by decide) ?_ ?_
    · unfold f_L_frequency f_X10_frequency
      rw [zq_C0 hI.c7 hx, xe_inr, xe_inr]
      rfl
    · unfold f_X11_frequency
      rw [zq_isC0 (n := nc) (by rw [xi_new (by omega)]; exact hI.T14) (by omega) hx, xb_some, zs_good0, xb_some]
      rfl
  · have hcnt := zct_le (fun j => decide (xm_i h 303 (57 + 5 * j + 2) = nI c)) n
    have hpc := zpc_le (zMs (fun k => xm_i h 303 (57 + 5 * k + 1)) (fun k => xm_i h 303 (57 + 5 * k + 2)) (nI c) n)
    have hcc : zct (fun j => decide (xm_i h 212 (0 + j) = nI c)) n = zct (fun j => decide (xm_i h 303 (57 + 5 * j + 2) = nI c)) n := zct_congr (fun i hi => by rw [Nat.zero_add, (hI.ra.2.2.2 i hi).2.2.1])
    generalize hK : zct (fun j => decide (xm_i h 303 (57 + 5 * j + 2) = nI c)) n = K at *
    generalize hP : zpc (zMs (fun k => xm_i h 303 (57 + 5 * k + 1)) (fun k => xm_i h 303 (57 + 5 * k + 2)) (nI c) n) = P at *
    refine zopD_ok (h2 := xm_si (xm_sd h 317 0 (if P = 0 then FP.dconst0 else FP.ddiv (FP.i2d (nI K)) (FP.i2d (nI P)))) 302 4 0) (v := if P = 0 then FP.dconst0 else FP.ddiv (FP.i2d (nI K)) (FP.i2d (nI P))) ?_ ?_ (zF.si zscr4) xi_eq
    · unfold f_L_frequency f_X10_frequency
      rw [zq_C1 hI.c7 (by omega) hc, xe_inl, hI.e2, show (0 : Int32) = nI 0 from rfl, zc_countOf hN (by omega) (by omega), xb_some, zc_reached hN (by omega) hI.uB2, xb_some, hI.ms, hP, Nat.sub_zero, hcc, zc_quo (by omega) (by omega), xb_some, xe_inl]
      rfl
    · have e := fun v : UInt64 => show xm_i (xm_si (xm_sd h 317 0 v) 302 4 0) 303 = xm_i h 303 from by rw [zU_ot (by decide), xi_sd]
      have hr := fun v => zs_reachOf (N := N) (n := n) (c := c) (g := xm_si (xm_sd h 317 0 v) 302 4 0) hN (by omega) (by rw [e]; exact hI.ws.2.2.2.1) (by rw [e]; exact hI.uB)
      have hi := fun v => zs_impressionsOf (N := N) (n := n) (c := nI c) (g := xm_si (xm_sd h 317 0 v) 302 4 0) hN (by omega) (by rw [e]; exact hI.ws.2.2.2.1)
      unfold f_X11_frequency
      rw [zq_isC1 (n := nc) (by exact hI.T14) (by omega) hc, xb_some, zs_good1, xb_some, if_neg (by decide), hr, xb_some, e, hP]
      by_cases h0 : P = 0
      · rw [if_pos (by rw [h0]; rfl), if_pos h0]
      · rw [if_neg (nI_ne0 (by omega) (by omega)), hi, xb_some, e, hK, if_pos (zPos_div (zPos_i2d (by omega)) (by omega) (by omega)).g, if_neg h0]
end Imp
