/-! the reference's auction: apart, prices, filling -/
theorem zany_take {α : Type} (p : α → Bool) {W : List α} {i : Nat} {w : α} (hw : W[i]? = some w) : (W.take (i + 1)).any p = ((W.take i).any p || p w) := by
  rw [List.take_succ, List.any_append, hw]
  simp
theorem zs_isApart_in {N c : Nat} {h : xm_H} {W : List Nat} {pr : Int32} {c3 : Int32} {b0 : Bool} {k91 : Int32 → xm_H → Option (Int32 × xm_H)} (hN : 1000 ≤ N) (hW4 : W.length ≤ 4) (hW : ∀ x ∈ W, x < 8) (hc : c < 8) (hct : xm_i h 302 28 = nI W.length) (hR : zRow (xm_i h 313) W) : f_X11_isApart_29 N (nI c) c3 pr k91 N (zi b0) 0 h = k91 (zi (b0 || W.any fun w => zbit pr c && zbit pr w && !decide (w = c))) h := by
  refine zlp0 (N := N) (F := fun n s => f_X11_isApart_29 N (nI c) c3 pr k91 n s.1 s.2.1 s.2.2) (I := fun i s => s = (zi (b0 || (W.take i).any fun w => zbit pr c && zbit pr w && !decide (w = c)), nI i, h)) (L := W.length) (s := (zi b0, 0, h)) (by omega) (by simp; rfl) ?_ ?_
  · intro m i s hi hs
    subst hs
    refine ⟨_, rfl, ?_⟩
    show f_X11_isApart_29B N (nI c) c3 pr k91 (f_X11_isApart_29 N (nI c) c3 pr k91 m) _ (nI i) h = f_X11_isApart_29 N (nI c) c3 pr k91 m _ (nI (i + 1)) h
    generalize f_X11_isApart_29 N (nI c) c3 pr k91 m = rec
    have hx := List.getElem?_eq_getElem hi
    have hx8 := hW _ (List.getElem_mem hi)
    have hr := hR i _ hx
    rw [zany_take _ hx]
    generalize W[i] = x at *
    generalize (W.take i).any (fun w => zbit pr c && zbit pr w && !decide (w = c)) = b1
    dsimp only
    unfold f_X11_isApart_29B
    rw [hct, if_pos (nI_lt hi (by omega)), nI_1]
    simp only [nI_clamp (show i < 2 ^ 31 by omega), hr]
    rw [← Bool.or_assoc]
    generalize (b0 || b1) = b
    cases b with
    | true => rw [if_neg (by decide : ¬ zi true = 0)]; rfl
    | false =>
      rw [if_pos (by decide : zi false = 0), if_pos (zb_in (by omega) (by decide))]
      by_cases h1 : (pr >>> (nI c &&& 31)) &&& 1 = 1
      · rw [if_pos h1, show zbit pr c = true from decide_eq_true h1]
        by_cases h2 : (pr >>> (nI x &&& 31)) &&& 1 = 1
        · rw [if_pos h2, show zbit pr x = true from decide_eq_true h2]
          by_cases h3 : x = c
          · rw [if_pos (by rw [h3]), h3]
            simp [zi]
          · rw [if_neg (fun z => h3 ((nI_eq (by omega) (by omega)).mp z))]
            simp [zi, h3]
        · rw [if_neg h2, show zbit pr x = false from decide_eq_false h2]
          rfl
      · rw [if_neg h1, show zbit pr c = false from decide_eq_false h1]
        rfl
  · intro m s hs
    subst hs
    show f_X11_isApart_29B N (nI c) c3 pr k91 (f_X11_isApart_29 N (nI c) c3 pr k91 m) _ (nI W.length) h = _
    unfold f_X11_isApart_29B
    rw [hct, if_neg (nI_nlt (Nat.le_refl _) (by omega)), List.take_length]
theorem zs_isApart {N na c : Nat} {h : xm_H} {W : List Nat} (hN : 1000 ≤ N) (hna : na ≤ 8) (hT : xm_i h 308 63 = nI na) (hW4 : W.length ≤ 4) (hW : ∀ x ∈ W, x < 8) (hc : c < 8) (hct : xm_i h 302 28 = nI W.length) (hR : zRow (xm_i h 313) W) : f_X11_isApart N (nI c) h = some (zi (W.any fun w => zAp (xm_i h 308) na c w), h) := by
  unfold f_X11_isApart
  have hsw : (W.any fun w => zAp (xm_i h 308) na c w) = (List.range na).any fun k => W.any fun w => zbit (xm_i h 308 (64 + k)) c && zbit (xm_i h 308 (64 + k)) w && !decide (w = c) := by
    rw [Bool.eq_iff_iff]
    simp only [List.any_eq_true, zAp]
    constructor
    · rintro ⟨w, h1, k, h2, h3⟩
      exact ⟨k, h2, w, h1, h3⟩
    · rintro ⟨k, h2, w, h1, h3⟩
      exact ⟨w, h1, k, h2, h3⟩
  rw [hsw]
  refine zlp0 (N := N) (F := fun n s => f_X11_isApart_4 N (nI c) n s.1 s.2.1 s.2.2) (I := fun i s => s = (zi ((List.range i).any fun k => W.any fun w => zbit (xm_i h 308 (64 + k)) c && zbit (xm_i h 308 (64 + k)) w && !decide (w = c)), nI i, h)) (L := na) (s := (0, 0, h)) (by omega) rfl ?_ ?_
  · intro m i s hi hs
    subst hs
    refine ⟨_, rfl, ?_⟩
    show f_X11_isApart_4B N (nI c) (f_X11_isApart_4 N (nI c) m) _ (nI i) h = f_X11_isApart_4 N (nI c) m _ (nI (i + 1)) h
    generalize f_X11_isApart_4 N (nI c) m = rec
    unfold f_X11_isApart_4B
    rw [hT, if_pos (nI_lt hi (by omega)), show (64 : Int32) + nI i = nI (64 + i) from nI_add 64 i, if_pos (zb_in (by omega) (by decide)), nI_clamp (by omega), zs_isApart_in hN hW4 hW hc hct hR, nI_1, List.range_succ, List.any_append]
    simp
  · intro m s hs
    subst hs
    show f_X11_isApart_4B N (nI c) (f_X11_isApart_4 N (nI c) m) _ (nI na) h = _
    unfold f_X11_isApart_4B
    rw [hT, if_neg (nI_nlt (Nat.le_refl _) (by omega))]
    exact if_pos (zi_01 _)
theorem zs_priceOf {p t j : Nat} {h : xm_H} {l : List Nat} (hln : l.length ≤ 8) (hl : ∀ x ∈ l, x < 8) (ht : t < 6) (hj : j < 4) (hp : p < l.length) (hct : xm_i h 302 27 = nI l.length) (hR : zRow (xm_i h 312) l) : f_X11_priceOf (nI p) (nI t) (nI j) h = some (zPr (zEf (xm_i h 303)) (xm_i h 308) l (xm_i h 303 (51 + t)) j p, h) := by
  unfold f_X11_priceOf zPr zBs
  rw [nI_1, hct, show (51 : Int32) + nI t = nI (51 + t) from nI_add 51 t, show (3 : Int32) + nI j = nI (3 + j) from nI_add 3 j]
  simp only [nI_clamp (show 51 + t < 2 ^ 31 by omega), nI_clamp (show 3 + j < 2 ^ 31 by omega), if_pos (zb_in (show 51 + t < 2217 by omega) (by decide)), if_pos (zb_in (show 3 + j < 72 by omega) (by decide))]
  by_cases h1 : p + 1 < l.length
  · have hx := List.getElem?_eq_getElem h1
    have hx8 := hl _ (List.getElem_mem h1)
    have hr := hR (p + 1) _ hx
    have hg : l.getD (p + 1) 0 = l[p + 1] := by rw [List.getD_eq_getElem?_getD, hx]; rfl
    rw [if_pos (nI_lt h1 (by omega)), if_pos (zb_in (by omega) (by decide)), nI_clamp (by omega), hr, zs_effective hx8, xb_some, if_pos h1, hg]
  · rw [if_neg (nI_nlt (by omega) (by omega)), if_neg h1]
/-- the state of the filling -/
def zFi (T : zV) (e : Nat → Int32) (l : List Nat) (fl : Int32) (h : xm_H) (W : List (Nat × Nat)) : Prop := xm_i h 302 28 = nI W.length ∧ zRow (xm_i h 313) (W.map fun w => w.2) ∧ ∀ j w, W[j]? = some w → xm_i h 314 j = zPr e T l fl j w.1
theorem zRow.snoc {R : zV} {l : List Nat} {c : Nat} {R' : zV} (hR : zRow R l) (h1 : ∀ i, i < l.length → R' i = R i) (h2 : R' l.length = nI c) : zRow R' (l ++ [c]) := by
  intro i x hx
  by_cases hi : i < l.length
  · rw [List.getElem?_append_left hi] at hx
    rw [h1 i hi]
    exact hR i x hx
  · rw [List.getElem?_append_right (by omega)] at hx
    by_cases hj : i = l.length
    · rw [hj, Nat.sub_self] at hx
      have : c = x := by simpa using hx
      rw [hj, h2, this]
    · rw [List.getElem?_eq_none (by simp; omega)] at hx
      cases hx
theorem zs_fill51 {N na t k : Nat} {h0 : xm_H} {l : List Nat} (hN : 1000 ≤ N) (hk : k ≤ 4) (ht : t < 6) (hna : na ≤ 8) (hT : xm_i h0 308 63 = nI na) (hln : l.length ≤ 8) (hl : ∀ x ∈ l, x < 8) (hct : xm_i h0 302 27 = nI l.length) (hR : zRow (xm_i h0 312) l) : ∀ (r : List Nat) (p n : Nat) (h : xm_H) (W : List (Nat × Nat)), l.drop p = r → p + r.length = l.length → r.length < n → zF (fun a q => a = 313 ∨ a = 314 ∨ (a = 302 ∧ q = 28)) h0 h → W.length ≤ k → (∀ w ∈ W, w.2 < 8) → zFi (xm_i h0 308) (zEf (xm_i h0 303)) l (xm_i h0 303 (51 + t)) h W → ∃ h', f_X11_auction_51 N (nI t) (nI k) n (nI p) h = some ((), h') ∧ zF (fun a q => a = 313 ∨ a = 314 ∨ (a = 302 ∧ q = 28)) h0 h' ∧ zFi (xm_i h0 308) (zEf (xm_i h0 303)) l (xm_i h0 303 (51 + t)) h' (zFl (zAp (xm_i h0 308) na) k r p W) := by
  intro r
  induction r with
  | nil =>
    intro p n h W hd hp hn hF hWk hW8 hI
    match n, hn with
    | n + 1, hn =>
      have hpl : p = l.length := by simpa using hp
      refine ⟨h, ?_, hF, hI⟩
      show f_X11_auction_51B N (nI t) (nI k) _ (nI p) h = _
      unfold f_X11_auction_51B
      rw [hF.i (by omega), hct, if_neg (nI_nlt (by omega) (by omega))]
  | cons c r ih =>
    intro p n h W hd hp hn hF hWk hW8 hI
    rw [List.length_cons] at hp
    match n, hn with
    | n + 1, hn =>
      rw [List.length_cons] at hn
      have hpl : p < l.length := by omega
      have hx : l[p]? = some c := by
        have := congrArg (fun z => z[0]?) hd
        simpa using this
      have hc8 : c < 8 := hl c (List.mem_of_getElem? hx)
      have hd2 : l.drop (p + 1) = r := by
        rw [← List.drop_drop, hd]
        rfl
      have hct1 : xm_i h 302 27 = nI l.length := by rw [hF.i (by omega), hct]
      have hR1 : xm_i h 312 = xm_i h0 312 := hF.row (fun q z => by omega)
      have hS1 : xm_i h 303 = xm_i h0 303 := hF.row (fun q z => by omega)
      have hT1 : xm_i h 308 = xm_i h0 308 := hF.row (fun q z => by omega)
      have hrp : xm_i h 312 p = nI c := by rw [hR1]; exact hR p c hx
      obtain ⟨i1, i2, i3⟩ := hI
      show ∃ h', f_X11_auction_51B N (nI t) (nI k) (f_X11_auction_51 N (nI t) (nI k) n) (nI p) h = some ((), h') ∧ _
      unfold f_X11_auction_51B zFl
      rw [hct1, if_pos (nI_lt hpl (by omega)), i1]
      by_cases hwk : W.length < k
      · rw [if_pos (nI_lt hwk (by omega)), if_pos hwk, if_pos (zb_in (by omega) (by decide)), nI_clamp (by omega), hrp]
        rw [zs_isApart (W := W.map fun w => w.2) hN hna (by rw [hT1]; exact hT) (by rw [List.length_map]; omega) (by intro x hx2; obtain ⟨w, hw, rfl⟩ := List.mem_map.mp hx2; exact hW8 w hw) hc8 (by rw [List.length_map]; exact i1) i2, xb_some, hT1]
        rw [show ((W.map fun w => w.2).any fun w => zAp (xm_i h0 308) na c w) = (W.any fun w => zAp (xm_i h0 308) na c w.2) by rw [List.any_map]; rfl]
        cases hb : (W.any fun w => zAp (xm_i h0 308) na c w.2) with
        | true =>
          rw [if_neg (by decide : ¬ zi true = 0), if_pos rfl, nI_1]
          exact ih (p + 1) n h W hd2 (by omega) (by omega) hF hWk hW8 ⟨i1, i2, i3⟩
        | false =>
          rw [if_pos (by decide : zi false = 0), if_neg (by decide : ¬ false = true), i1, zs_priceOf (j := W.length) hln hl ht (by omega) hpl hct1 (by rw [hR1]; exact hR), xb_some, hS1, hT1, if_pos (zb_in (by omega) (by decide)), nI_clamp (by omega)]
          simp only [xl]
          rw [xi_ne (by decide), i1, if_pos (zb_in (by omega) (by decide)), nI_clamp (by omega), xi_ne (by decide), hrp, xi_ne (by decide), xi_ne (by decide), i1, nI_1, nI_1]
          refine ih (p + 1) n _ (W ++ [(p, c)]) hd2 (by omega) (by omega) (((hF.st (Or.inr (Or.inl rfl))).st (Or.inl rfl)).st (Or.inr (Or.inr ⟨rfl, rfl⟩))) (by rw [List.length_append]; simp; omega) ?_ ⟨?_, ?_, ?_⟩
          · intro w hw
            rcases List.mem_append.mp hw with hw | hw
            · exact hW8 w hw
            · have : w = (p, c) := by simpa using hw
              rw [this]
              exact hc8
          · rw [xi_eq, List.length_append]
            rfl
          · rw [List.map_append]
            refine zRow.snoc i2 ?_ ?_
            · intro i hi
              rw [List.length_map] at hi
              rw [xi_ne (by decide), xi_nk (by omega), xi_ne (by decide)]
            · rw [List.length_map, xi_ne (by decide), xi_eq]
          · intro j w hw
            rw [xi_ne (by decide), xi_ne (by decide)]
            by_cases hj : j < W.length
            · rw [List.getElem?_append_left hj] at hw
              rw [xi_nk (by omega)]
              exact i3 j w hw
            · rw [List.getElem?_append_right (by omega)] at hw
              by_cases hj2 : j = W.length
              · rw [hj2, Nat.sub_self] at hw
                have : (p, c) = w := by simpa using hw
                rw [hj2, xi_eq, ← this]
              · rw [List.getElem?_eq_none (by simp; omega)] at hw
                cases hw
      · rw [if_neg (nI_nlt (by omega) (by omega)), if_neg hwk]
        exact ⟨h, rfl, hF, i1, i2, i3⟩
/-- the auction -/
theorem zs_auction {N n na nc t k : Nat} {u : Int32} {h : xm_H} (hN : 1000 ≤ N) (hk : k ≤ 4) (ht : t < 6) (hna : na ≤ 8) (hnc : nc ≤ 8) (hn : n ≤ 400) (hT : xm_i h 308 63 = nI na) (hC : xm_i h 308 14 = nI nc) (hS : xm_i h 303 1 = nI n) (hd : ¬ xm_i h 308 0 = 0) : ∃ h', f_X11_auction N u (nI t) (nI k) h = some ((), h') ∧ zF zsM h h' ∧ xm_i h' 302 27 = nI (zL (xm_i h 303) (xm_i h 308) n u t nc).length ∧ zRow (xm_i h' 312) (zL (xm_i h 303) (xm_i h 308) n u t nc) ∧ zFi (xm_i h 308) (zEf (xm_i h 303)) (zL (xm_i h 303) (xm_i h 308) n u t nc) (xm_i h 303 (51 + t)) h' (zW (xm_i h 303) (xm_i h 308) na n u t nc k) := by
  unfold f_X11_auction
  simp only [xl]
  generalize hS0 : xm_i h 303 = S at *
  generalize hT0 : xm_i h 308 = T at *
  obtain ⟨m, ⟨c4, h1⟩, ⟨e1, e2, e3, e4, e5⟩, hE⟩ := zlpO (N := N) (F := fun n s => fun K => f_X11_auction_13 N u (nI t) (nI k) K n s.1 s.2) (I := fun i s => s.1 = nI i ∧ zF zsM h s.2 ∧ xm_i s.2 302 27 = nI (zRk (zEf S) (zCon S T n u t) i).length ∧ xm_i s.2 302 28 = 0 ∧ zRow (xm_i s.2 312) (zRk (zEf S) (zCon S T n u t) i)) (L := nc) (s := (0, xm_si (xm_si h 302 27 0) 302 28 0)) (by omega) ⟨rfl, (zF.si (Or.inr (Or.inr (Or.inr ⟨rfl, Or.inl rfl⟩)))).st (Or.inr (Or.inr (Or.inr ⟨rfl, Or.inr rfl⟩))), rfl, xi_eq, zRow.nil⟩ (by
    rintro m i ⟨c4, h1⟩ hi ⟨e1, e2, e3, e4, e5⟩
    dsimp only at e1 e2 e3 e4 e5 ⊢
    subst e1
    have hS1 : xm_i h1 303 = S := by rw [e2.row (fun q z => by unfold zsM at z; omega)]; exact hS0
    have hT1 : xm_i h1 308 = T := by rw [e2.row (fun q z => by unfold zsM at z; omega)]; exact hT0
    have hlen := zRk_len (zEf S) (zCon S T n u t) i
    have hrf := zs_refusalOf (N := N) (n := n) (c := i) (t := t) (u := u) (h := h1) hN (by omega) ht hn (by rw [hS1]; exact hS) (by rw [hT1]; exact hd)
    rw [hS1, hT1] at hrf
    by_cases hcn : zCon S T n u t i = true
    · have hz : zRf S T (nI (zRc S T i u n)) i (nI t) (zEf S i) (S (51 + t)) = 0 := of_decide_eq_true hcn
      rw [hz] at hrf
      obtain ⟨h2, g1, g2, g3, g4, g5⟩ := zs_rankOne (N := N) (c := i) (h := h1) (l := zRk (zEf S) (zCon S T n u t) i) hN (by omega) (by omega) (fun x hx => by have := (zRk_mem.mp hx).1; omega) e3 e5 (by rw [hS1]; exact zRk_sd _ _ _)
      refine ⟨(nI (i + 1), h2), ⟨rfl, e2.tr g2, ?_, g4.trans e4, ?_⟩, ?_⟩
      · dsimp only
        rw [g3]
        show _ = nI (if zCon S T n u t i = true then zIns (zEf S) (zRk (zEf S) (zCon S T n u t) i) i else zRk (zEf S) (zCon S T n u t) i).length
        rw [if_pos hcn, zIns_len (zRk_sd _ _ _)]
      · dsimp only
        show zRow _ (if zCon S T n u t i = true then zIns (zEf S) (zRk (zEf S) (zCon S T n u t) i) i else zRk (zEf S) (zCon S T n u t) i)
        rw [if_pos hcn]
        rw [hS1] at g5
        exact g5
      · funext K
        show f_X11_auction_13B N u (nI t) (nI k) K (f_X11_auction_13 N u (nI t) (nI k) K m) (nI i) h1 = f_X11_auction_13 N u (nI t) (nI k) K m (nI (i + 1)) h2
        generalize f_X11_auction_13 N u (nI t) (nI k) K m = rec
        unfold f_X11_auction_13B
        rw [hT1, hC, if_pos (nI_lt hi (by omega)), hrf, xb_some, if_pos rfl, g1, xb_some, nI_1]
    · have hz : ¬ zRf S T (nI (zRc S T i u n)) i (nI t) (zEf S i) (S (51 + t)) = 0 := fun z => hcn (decide_eq_true z)
      refine ⟨(nI (i + 1), h1), ⟨rfl, e2, ?_, e4, ?_⟩, ?_⟩
      · dsimp only
        show _ = nI (if zCon S T n u t i = true then zIns (zEf S) (zRk (zEf S) (zCon S T n u t) i) i else zRk (zEf S) (zCon S T n u t) i).length
        rw [if_neg hcn]
        exact e3
      · dsimp only
        show zRow _ (if zCon S T n u t i = true then zIns (zEf S) (zRk (zEf S) (zCon S T n u t) i) i else zRk (zEf S) (zCon S T n u t) i)
        rw [if_neg hcn]
        exact e5
      · funext K
        show f_X11_auction_13B N u (nI t) (nI k) K (f_X11_auction_13 N u (nI t) (nI k) K m) (nI i) h1 = f_X11_auction_13 N u (nI t) (nI k) K m (nI (i + 1)) h1
        generalize f_X11_auction_13 N u (nI t) (nI k) K m = rec
        unfold f_X11_auction_13B
        rw [hT1, hC, if_pos (nI_lt hi (by omega)), hrf, xb_some, if_neg hz, nI_1])
  dsimp only at e1 e2 e3 e4 e5
  subst e1
  have hS1 : xm_i h1 303 = S := by rw [e2.row (fun q z => by unfold zsM at z; omega)]; exact hS0
  have hT1 : xm_i h1 308 = T := by rw [e2.row (fun q z => by unfold zsM at z; omega)]; exact hT0
  have hlen := zRk_len (zEf S) (zCon S T n u t) nc
  have hfl := zs_fill51 (N := N) (na := na) (t := t) (k := k) (h0 := h1) (l := zRk (zEf S) (zCon S T n u t) nc) hN hk ht hna (by rw [hT1]; exact hT) (by omega) (fun x hx => by have := (zRk_mem.mp hx).1; omega) e3 e5 (zRk (zEf S) (zCon S T n u t) nc) 0 N h1 [] rfl (by omega) (by omega) zF.rf (by simp) (by intro w hw; simp at hw) ⟨e4, zRow.nil, fun j w hw => by simp at hw⟩
  obtain ⟨h2, g1, g2, g3⟩ := hfl
  rw [hS1, hT1] at g3
  have hE2 : ∀ K, f_X11_auction_13 N u (nI t) (nI k) K N 0 (xm_si (xm_si h 302 27 0) 302 28 0) = K h1 := fun K => by
    refine (congrFun hE K).trans ?_
    show f_X11_auction_13B N u (nI t) (nI k) K (f_X11_auction_13 N u (nI t) (nI k) K m) (nI nc) h1 = _
    unfold f_X11_auction_13B
    rw [hT1, hC, if_neg (nI_nlt (Nat.le_refl _) (by omega))]
  refine ⟨h2, ?_, e2.tr (g2.mono (fun a q z => ?_)), ?_, ?_, g3⟩
  · rw [hE2]
    exact g1
  · unfold zsM
    omega
  · rw [g2.i (by omega)]
    exact e3
  · rw [g2.row (fun q z => by omega)]
    exact e5
