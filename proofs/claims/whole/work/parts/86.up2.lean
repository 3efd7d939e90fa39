/-! load: a tag, a campaign, a pair more -/
set_option maxRecDepth 100000 in
theorem zshl8 : ∀ q : Fin 8, ((1 : Int32) <<< (nI q.1 &&& 31)) = nI (2 ^ q.1) := by decide +kernel
set_option maxRecDepth 100000 in
theorem zbit8 : ∀ p q w : Fin 8, zbit (nI (2 ^ p.1 ||| 2 ^ q.1)) w.1 = decide (w.1 = p.1 ∨ w.1 = q.1) := by decide +kernel
section Up2
variable {L δ nc nt nf na k k' v i c m p q a a2 mp mq bi bu ca wi : Nat} {tg : Int32} {xs : zV} {W V : Nat → List Nat} {w : List Nat} {T T' : zV} {h0 k0 hc hr hc' hr' : xm_H}
theorem zAp_s {c w : Nat} (hp : p < 8) (hq : q < 8) (hc8 : c < 8) (hw : w < 8) (e0 : ∀ j, j < na → T' (64 + j) = T (64 + j)) (e1 : T' (64 + na) = nI (2 ^ p ||| 2 ^ q)) : zAp T' (na + 1) c w = (zAp T na c w || (decide (c = p ∨ c = q) && decide (w = p ∨ w = q) && !decide (w = c))) := by
  have e2 : zAp T na c w = zAp T' na c w := (zAp_cg e0).symm
  rw [e2]
  unfold zAp
  rw [List.range_succ, List.any_append]
  congr 1
  have z1 := zbit8 ⟨p, hp⟩ ⟨q, hq⟩ ⟨c, hc8⟩
  have z2 := zbit8 ⟨p, hp⟩ ⟨q, hq⟩ ⟨w, hw⟩
  dsimp only at z1 z2
  show ((zbit (T' (64 + na)) c && zbit (T' (64 + na)) w && !decide (w = c)) || false) = _
  rw [Bool.or_false, e1, z1, z2]
theorem zV0.ap (hp : p < nc) (hq : q < nc) (hpq : p ≠ q) (hna : na < 8) (ep : xm_i hc (δ + 10 + p) 7 = nI mp) (eq : xm_i hc (δ + 10 + q) 7 = nI mq) (hV : zV0 L xs δ h0 k0 nc nt nf na W V k hc hr) : zV0 L xs δ h0 k0 nc nt nf (na + 1) W V k (xm_si (xm_si (xm_si hc (δ + 10 + p) 7 (nI (mp ||| 2 ^ q))) (δ + 10 + q) 7 (nI (mq ||| 2 ^ p))) δ 8 (nI (na + 1))) (xm_si (xm_si hr 307 (64 + na) (nI (2 ^ p ||| 2 ^ q))) 307 63 (nI (na + 1))) := by
  have hV' := hV
  obtain ⟨v1, v2, v3, ⟨w1, w2, w3, w4, w5, w6, w7, w8, w9⟩, v5, v6⟩ := hV
  have hδ := v1.1
  obtain ⟨a1, a2, a3, a4, a5, a6, a7, a8, a9, a10, a11, a12, a13⟩ := w1
  obtain ⟨r1, r2, r3, r4, r5, r6, r7⟩ := w2
  have eD : ∀ j, j ≠ 63 → j ≠ 64 + na → xm_i (xm_si (xm_si hr 307 (64 + na) (nI (2 ^ p ||| 2 ^ q))) 307 63 (nI (na + 1))) 307 j = xm_i hr 307 j := fun j h1 h2 => by rw [xi_nk h1, xi_nk h2]
  have eD3 : xm_i (xm_si (xm_si hr 307 (64 + na) (nI (2 ^ p ||| 2 ^ q))) 307 63 (nI (na + 1))) 307 63 = nI (na + 1) := xi_eq
  have eD4 : xm_i (xm_si (xm_si hr 307 (64 + na) (nI (2 ^ p ||| 2 ^ q))) 307 63 (nI (na + 1))) 307 (64 + na) = nI (2 ^ p ||| 2 ^ q) := by rw [xi_nk (by omega), xi_eq]
  have eC : ∀ a j, ¬ (a = δ ∧ j = 8) → ¬ (a = δ + 10 + p ∧ j = 7) → ¬ (a = δ + 10 + q ∧ j = 7) → xm_i (xm_si (xm_si (xm_si hc (δ + 10 + p) 7 (nI (mp ||| 2 ^ q))) (δ + 10 + q) 7 (nI (mq ||| 2 ^ p))) δ 8 (nI (na + 1))) a j = xm_i hc a j := fun a j h1 h2 h3 => by rw [xi_si, if_neg h1, xi_si, if_neg h3, xi_si, if_neg h2]
  have eC8 : xm_i (xm_si (xm_si (xm_si hc (δ + 10 + p) 7 (nI (mp ||| 2 ^ q))) (δ + 10 + q) 7 (nI (mq ||| 2 ^ p))) δ 8 (nI (na + 1))) δ 8 = nI (na + 1) := xi_eq
  have eCp : xm_i (xm_si (xm_si (xm_si hc (δ + 10 + p) 7 (nI (mp ||| 2 ^ q))) (δ + 10 + q) 7 (nI (mq ||| 2 ^ p))) δ 8 (nI (na + 1))) (δ + 10 + p) 7 = nI (mp ||| 2 ^ q) := by rw [xi_nk (by decide), xi_ne (by omega), xi_eq]
  have eCq : xm_i (xm_si (xm_si (xm_si hc (δ + 10 + p) 7 (nI (mp ||| 2 ^ q))) (δ + 10 + q) 7 (nI (mq ||| 2 ^ p))) δ 8 (nI (na + 1))) (δ + 10 + q) 7 = nI (mq ||| 2 ^ p) := by rw [xi_nk (by decide), xi_eq]
  refine hV'.up (((zF.si (by omega)).st (by omega)).st (by omega)) ((zF.si (A := fun a (_ : Nat) => a = 307) rfl).st rfl) ?_ ?_ eC8 ?_ ?_ ?_ ?_
  · exact ⟨a1, a2, a3, a4, by omega, (eD _ (by omega) (by omega)).trans a6, (eD _ (by omega) (by omega)).trans a7, (eD _ (by omega) (by omega)).trans a8, eD3, by rw [eD _ (by omega) (by omega)]; exact a10, by rw [eD _ (by omega) (by omega)]; exact a11, fun j hj => by rw [eD _ (by omega) (by omega)]; exact a12 j hj, fun c hc => by rw [eD _ (by omega) (by omega), eD _ (by omega) (by omega), eD _ (by omega) (by omega)]; exact a13 c hc⟩
  · refine ⟨by rw [eC _ _ (by omega) (by omega) (by omega), eD _ (by omega) (by omega)]; exact r1, by rw [eC _ _ (by omega) (by omega) (by omega), eD _ (by omega) (by omega)]; exact r2, by rw [eC _ _ (by omega) (by omega) (by omega), eD _ (by omega) (by omega)]; exact r3, by rw [eC _ _ (by omega) (by omega) (by omega), eD _ (by omega) (by omega)]; exact r4, by rw [eC _ _ (by omega) (by omega) (by omega), eD _ (by omega) (by omega)]; exact r5, fun j hj => by rw [eC _ _ (by omega) (by omega) (by omega), eD _ (by omega) (by omega)]; exact r6 j hj, fun c hc => ?_⟩
    obtain ⟨b1, b2, b3, mm, b4, b5, b6⟩ := r7 c hc
    have zs := fun w (hw : w < 8) => zAp_s (na := na) (p := p) (q := q) (c := c) (w := w) (T := xm_i hr 307) (T' := xm_i (xm_si (xm_si hr 307 (64 + na) (nI (2 ^ p ||| 2 ^ q))) 307 63 (nI (na + 1))) 307) (by omega) (by omega) (by omega) hw (fun j hj => eD _ (by omega) (by omega)) eD4
    have hor : ∀ y z : Nat, y < 256 → z < 8 → y ||| 2 ^ z < 256 := fun y z hy hz => Nat.or_lt_two_pow (n := 8) hy (Nat.pow_lt_pow_right (by omega) hz)
    have g3 : xm_i (xm_si (xm_si (xm_si _ (δ + 10 + p) 7 (nI (mp ||| 2 ^ q))) (δ + 10 + q) 7 (nI (mq ||| 2 ^ p))) δ 8 (nI (na + 1))) (δ + 10 + c) 3 = _ := (eC (δ + 10 + c) 3 (by omega) (by omega) (by omega)).trans b1
    refine ⟨by rw [g3, eD _ (by omega) (by omega)], by rw [eC _ _ (by omega) (by omega) (by omega), eD _ (by omega) (by omega)]; exact b2, by rw [eC _ _ (by omega) (by omega) (by omega), eD _ (by omega) (by omega)]; exact b3, ?_⟩
    by_cases hcp : c = p
    · subst hcp
      have hm : mm = mp ∨ True := Or.inr trivial
      refine ⟨mm ||| 2 ^ q, hor mm q b4 (by omega), ?_, fun w hw => ?_⟩
      · rw [eCp, ← zb_or, ← ep, b5, zb_or]
      · rw [zs w hw, Nat.testBit_or, b6 w hw, Nat.testBit_two_pow]
        congr 1
        rw [decide_eq_true (show c = c ∨ c = q from Or.inl rfl), Bool.true_and]
        by_cases h1 : w = q
        · rw [decide_eq_true (show q = w from h1.symm), decide_eq_true (show w = c ∨ w = q from Or.inr h1), decide_eq_false (show ¬ w = c by omega)]
          rfl
        · rw [decide_eq_false (show ¬ q = w by omega)]
          by_cases h2 : w = c
          · rw [decide_eq_true h2]
            simp
          · rw [decide_eq_false (show ¬ (w = c ∨ w = q) by omega)]
            rfl
    · by_cases hcq : c = q
      · subst hcq
        refine ⟨mm ||| 2 ^ p, hor mm p b4 (by omega), ?_, fun w hw => ?_⟩
        · rw [eCq, ← zb_or, ← eq, b5, zb_or]
        · rw [zs w hw, Nat.testBit_or, b6 w hw, Nat.testBit_two_pow]
          congr 1
          rw [decide_eq_true (show c = p ∨ c = c from Or.inr rfl), Bool.true_and]
          by_cases h1 : w = p
          · rw [decide_eq_true (show p = w from h1.symm), decide_eq_true (show w = p ∨ w = c from Or.inl h1), decide_eq_false (show ¬ w = c by omega)]
            rfl
          · rw [decide_eq_false (show ¬ p = w by omega)]
            by_cases h2 : w = c
            · rw [decide_eq_true h2]
              simp
            · rw [decide_eq_false (show ¬ (w = p ∨ w = c) by omega)]
              rfl
      · refine ⟨mm, b4, by rw [eC _ _ (by omega) (by omega) (by omega)]; exact b5, fun w hw => ?_⟩
        rw [zs w hw, decide_eq_false (show ¬ (c = p ∨ c = q) by omega), b6 w hw]
        simp
  · intro t ht
    rw [eC _ _ (by omega) (by omega) (by omega), eD _ (by omega) (by omega)]
    exact w6 t ht
  · intro c hc
    rw [eC _ _ (by omega) (by omega) (by omega), eC _ _ (by omega) (by omega) (by omega), eC _ _ (by omega) (by omega) (by omega), eD _ (by omega) (by omega), eD _ (by omega) (by omega), eD _ (by omega) (by omega)]
    exact w7 c hc
  · intro c h1 h2
    rw [eD _ (by omega) (by omega)]
    exact w8 c h1 h2
  · intro j hj
    by_cases hjn : j = na
    · rw [hjn, eD4]
      exact ⟨p, q, hp, hq, hpq, rfl⟩
    · rw [eD _ (by omega) (by omega)]
      exact w9 j (by omega)
end Up2
