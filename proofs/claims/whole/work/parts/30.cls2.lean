/-! the class's ranking and filling -/
section Cls2
variable {N ρ nc nt nf na n nv : Nat} {S T : zV} {h : xm_H}
theorem zc_insert_lp {c : Nat} {l : List Nat} {e : Nat → Int32} (hN : 1000 ≤ N) (hc : c < 8) (hln : l.length < 8) (hl : ∀ x ∈ l, x < 8) (hR : zRow (xm_i h 217) l) (hs : zSd e l) (he : ∀ x ∈ l, xm_i h 216 x = e x) (hec : xm_i h 216 c = e c) : ∃ h1, (∀ K, f_X2_insert_5 N (nI c) K N (nI l.length) h = K (nI (l.filter (fun y => !decide (e y < e c))).length) h1) ∧ zF (fun a _ => a = 217) h h1 ∧ (∀ i, i < (l.filter (fun y => !decide (e y < e c))).length → xm_i h1 217 i = xm_i h 217 i) ∧ (∀ i, (l.filter (fun y => !decide (e y < e c))).length < i → i ≤ l.length → xm_i h1 217 i = xm_i h 217 (i - 1)) := by
  have hq := zIns_q (e := e) (l := l) (c := c)
  have hlo : ∀ i x, i < (l.filter (fun y => !decide (e y < e c))).length → l[i]? = some x → ¬ e x < e c := fun i x => zIns_lo hs
  have hhi : ∀ i x, (l.filter (fun y => !decide (e y < e c))).length ≤ i → l[i]? = some x → e x < e c := fun i x => zIns_hi hs
  generalize (l.filter (fun y => !decide (e y < e c))).length = q at *
  obtain ⟨m, ⟨at', h1⟩, ⟨e1, e2, e3, e4⟩, hE⟩ := zlpO (N := N) (F := fun n s => fun K => f_X2_insert_5 N (nI c) K n s.1 s.2) (I := fun j s => s.1 = nI (l.length - j) ∧ zF (fun a _ => a = 217) h s.2 ∧ (∀ i, i < l.length - j → xm_i s.2 217 i = xm_i h 217 i) ∧ (∀ i, l.length - j < i → i ≤ l.length → xm_i s.2 217 i = xm_i h 217 (i - 1))) (L := l.length - q) (s := (nI l.length, h)) (by omega) ⟨rfl, zF.rf, fun _ _ => rfl, fun i h1 h2 => by omega⟩ (by
    rintro m j ⟨at', h1⟩ hj ⟨e1, e2, e3, e4⟩
    obtain ⟨p, hp⟩ : ∃ p, l.length - j = p + 1 := ⟨l.length - j - 1, by omega⟩
    have hpl : p < l.length := by omega
    have hx := List.getElem?_eq_getElem hpl
    have hxm := List.getElem_mem hpl
    have hlt := hhi p _ (by omega) hx
    have hr := hR p _ hx
    generalize l[p] = x at *
    have hx8 := hl _ hxm
    dsimp only at e1 e2 e3 e4 ⊢
    subst e1
    rw [hp] at e3 e4 ⊢
    refine ⟨(nI (l.length - (j + 1)), xm_si h1 217 (p + 1) (nI x)), ⟨rfl, e2.st rfl, ?_, ?_⟩, ?_⟩
    · intro i hi
      dsimp only
      rw [xi_nk (by omega)]
      exact e3 i (by omega)
    · intro i hi1 hi2
      dsimp only
      by_cases hi : i = p + 1
      · rw [hi, xi_eq, show p + 1 - 1 = p by omega, hr]
      · rw [xi_nk hi]
        exact e4 i (by omega) hi2
    · funext K
      show f_X2_insert_5B N (nI c) K (f_X2_insert_5 N (nI c) K m) (nI (p + 1)) h1 = f_X2_insert_5 N (nI c) K m (nI (l.length - (j + 1))) (xm_si h1 217 (p + 1) (nI x))
      generalize f_X2_insert_5 N (nI c) K m = rec
      have hrx : xm_i h1 217 p = nI x := (e3 p (by omega)).trans hr
      have g1 : xm_i h1 216 x = e x := (e2.i (by omega)).trans (he x hxm)
      have g2 : xm_i h1 216 c = e c := (e2.i (by omega)).trans hec
      unfold f_X2_insert_5B
      rw [if_pos (zpos p (by omega)), nI_pred, if_pos (zb_in (by omega) (by decide))]
      simp only [nI_clamp (show p < 2 ^ 31 by omega), hrx, if_pos (zb_in hx8 (show 8 < 2 ^ 31 by decide)), if_pos (zb_in hc (show 8 < 2 ^ 31 by decide)), nI_clamp (show x < 2 ^ 31 by omega), nI_clamp (show c < 2 ^ 31 by omega), g1, g2, if_pos hlt, if_pos (zb_in (show p + 1 < 8 by omega) (by decide)), nI_clamp (show p + 1 < 2 ^ 31 by omega), pk_m1, show l.length - (j + 1) = p by omega, xl])
  dsimp only at e1 e2 e3 e4
  rw [show l.length - (l.length - q) = q by omega] at e1 e3 e4
  subst e1
  refine ⟨h1, fun K => ?_, e2, e3, e4⟩
  refine (congrFun hE K).trans ?_
  show f_X2_insert_5B N (nI c) K (f_X2_insert_5 N (nI c) K m) (nI q) h1 = _
  unfold f_X2_insert_5B
  match q, hlo, hq, e3 with
  | 0, _, _, _ => rw [if_neg (show ¬ (0 : Int32) < nI 0 from zlt_irr 0)]
  | p + 1, hlo, hq, e3 =>
    have hpl : p < l.length := by omega
    have hx := List.getElem?_eq_getElem hpl
    have hxm := List.getElem_mem hpl
    have hnl := hlo p _ (by omega) hx
    have hr := hR p _ hx
    generalize l[p] = x at *
    have hx8 := hl _ hxm
    have hrx := (e3 p (by omega)).trans hr
    have g1 : xm_i h1 216 x = e x := (e2.i (by omega)).trans (he x hxm)
    have g2 : xm_i h1 216 c = e c := (e2.i (by omega)).trans hec
    rw [if_pos (zpos p (by omega)), nI_pred, if_pos (zb_in (by omega) (by decide))]
    simp only [nI_clamp (show p < 2 ^ 31 by omega), hrx, if_pos (zb_in hx8 (show 8 < 2 ^ 31 by decide)), if_pos (zb_in hc (show 8 < 2 ^ 31 by decide)), nI_clamp (show x < 2 ^ 31 by omega), nI_clamp (show c < 2 ^ 31 by omega), g1, g2, if_neg hnl]
theorem zc_insert {c : Nat} {l : List Nat} {e : Nat → Int32} (hN : 1000 ≤ N) (hc : c < 8) (hln : l.length < 8) (hl : ∀ x ∈ l, x < 8) (hct : xm_i h 182 6 = nI l.length) (hR : zRow (xm_i h 217) l) (hs : zSd e l) (he : ∀ x ∈ l, xm_i h 216 x = e x) (hec : xm_i h 216 c = e c) : ∃ h', f_X2_insert N (nI c) h = some ((), h') ∧ zF (fun a k => a = 217 ∨ (a = 182 ∧ k = 6)) h h' ∧ xm_i h' 182 6 = nI (l.length + 1) ∧ zRow (xm_i h' 217) (zIns e l c) := by
  obtain ⟨h1, hE, e2, e3, e4⟩ := zc_insert_lp hN hc hln hl hR hs he hec
  have hq := zIns_q (e := e) (l := l) (c := c)
  have hc1 : xm_i h1 182 6 = nI l.length := by rw [e2.i (by omega)]; exact hct
  unfold f_X2_insert
  rw [hct, hE, if_pos (zb_in (by omega) (by decide)), nI_clamp (by omega)]
  simp only [xl]
  rw [xi_ne (by decide), hc1, nI_1]
  refine ⟨_, rfl, ((e2.mono (fun a k z => Or.inl z)).st (Or.inl rfl)).st (Or.inr ⟨rfl, rfl⟩), xi_eq, ?_⟩
  rw [zU_ot (by decide)]
  refine zRow.ins hs hR xi_eq ?_ ?_
  · intro i hi
    rw [xi_nk (by omega)]
    exact e3 i hi
  · intro i h1 h2
    rw [xi_nk (by omega)]
    exact e4 i h1 h2
/-- what a ranking leaves -/
def zRkd (nc n : Nat) (S T : zV) (u : Int32) (l : List Nat) (h : xm_H) : Prop := xm_i h 182 6 = nI l.length ∧ zRow (xm_i h 217) l ∧ (∀ c, c < nc → xm_i h 216 c = zEf S c) ∧ ∀ c, c < nc → xm_i h 215 c = nI (zRc S T c u n)
theorem zc_rank {t : Nat} {u fl : Int32} (hN : 1000 ≤ N) (hR : zRA ρ nc nt nf na n S T h) (hWT : zWT nc nt nf na T) (hWS : zWS nc nt n nv S) : ∃ h', f_X2_rank N ρ u (nI t) fl h = some ((), h') ∧ zF zsC h h' ∧ zRkd nc n S T u (zRk (zEf S) (zCn S T n u t fl) nc) h' := by
  have hnc : nc ≤ 8 := hWT.1
  have hd : zB 1 999 (T 0) := hWT.2.2.2.2.2.2.2.2.2.1
  obtain ⟨h1, c1, c2, c3⟩ := zc_countRecents (u := u) hN hR hWT hWS
  unfold f_X2_rank
  rw [c1, xb_some]
  simp only [xl]
  have hz0 : zF zsC h (xm_si h1 182 6 0) := (c2.mono (B := zsC) (fun a k z => Or.inl z)).st (Or.inr (Or.inr (Or.inr (Or.inr (Or.inr ⟨rfl, Or.inl rfl⟩)))))
  obtain ⟨m, ⟨c4, h2⟩, ⟨e1, e2, e3, e4, e5, e6⟩, hE⟩ := zlpO (N := N) (F := fun n s => f_X2_rank_13 N ρ (nI t) fl n s.1 s.2) (I := fun i s => s.1 = nI i ∧ zF zsC h s.2 ∧ xm_i s.2 182 6 = nI (zRk (zEf S) (zCn S T n u t fl) i).length ∧ zRow (xm_i s.2 217) (zRk (zEf S) (zCn S T n u t fl) i) ∧ (∀ c, c < i → xm_i s.2 216 c = zEf S c) ∧ ∀ c, c < nc → xm_i s.2 215 c = nI (zRc S T c u n)) (L := nc) (s := (0, xm_si h1 182 6 0)) (by omega) ⟨rfl, hz0, xi_eq, zRow.nil, fun c hc => by omega, fun c hc => by rw [xi_ne (by decide)]; exact c3 c hc⟩ (by
    rintro m i ⟨c4, h2⟩ hi ⟨e1, e2, e3, e4, e5, e6⟩
    dsimp only at e1 e2 e3 e4 e5 e6 ⊢
    subst e1
    have hR2 : zRA ρ nc nt nf na n S T h2 := hR.fr e2 hnc
    have e2' : zF zsC h (xm_si h2 216 i (zEf S i)) := e2.st (Or.inr (Or.inl rfl))
    have hR3 : zRA ρ nc nt nf na n S T (xm_si h2 216 i (zEf S i)) := hR.fr e2' hnc
    have hlen := zRk_len (zEf S) (zCn S T n u t fl) i
    have hreas := zc_reason (c := i) (t := t) (e := zEf S i) (fl := fl) (rc := nI (zRc S T i u n)) hR3 hnc hd (hWS.2.2.2.2.2.1 i hi).2.2.2.2.2 hi (by rw [xi_ne (by decide)]; exact e6 i hi)
    have h216 : ∀ c, c < i + 1 → xm_i (xm_si h2 216 i (zEf S i)) 216 c = zEf S c := fun c hc => by
      by_cases hci : c = i
      · rw [hci, xi_eq]
      · rw [xi_nk hci]
        exact e5 c (by omega)
    have hstep : f_X2_rank_13 N ρ (nI t) fl (m + 1) (nI i) h2 = if zRf S T (nI (zRc S T i u n)) i (nI t) (zEf S i) fl = 0 then (xb (f_X2_insert N (nI i) (xm_si h2 216 i (zEf S i))) fun v13 h14 => (f_X2_rank_13 N ρ (nI t) fl m (nI i + (1 : Int32)) h14)) else f_X2_rank_13 N ρ (nI t) fl m (nI i + (1 : Int32)) (xm_si h2 216 i (zEf S i)) := by
      show f_X2_rank_13B N ρ (nI t) fl (f_X2_rank_13 N ρ (nI t) fl m) (nI i) h2 = _
      generalize f_X2_rank_13 N ρ (nI t) fl m = rec
      unfold f_X2_rank_13B
      have e7 : xm_i h2 ρ 7 = nI nc := hR2.2.1.2.2.2.2.1.trans hWT.2.2.2.2.2.1
      rw [e7, if_pos (nI_lt hi (by omega)), zc_pacedBid hR2 hnc hi, xb_some, if_pos (zb_in (by omega) (by decide)), nI_clamp (by omega)]
      simp only [xl]
      rw [xi_eq, hreas, xb_some]
    by_cases hcn : zCn S T n u t fl i = true
    · have hz : zRf S T (nI (zRc S T i u n)) i (nI t) (zEf S i) fl = 0 := of_decide_eq_true hcn
      obtain ⟨h4, g1, g2, g3, g4⟩ := zc_insert (N := N) (h := xm_si h2 216 i (zEf S i)) (c := i) (l := zRk (zEf S) (zCn S T n u t fl) i) (e := zEf S) hN (by omega) (by omega) (fun x hx => by have := (zRk_mem.mp hx).1; omega) (by rw [xi_ne (by decide)]; exact e3) (by rw [zU_ot (by decide)]; exact e4) (zRk_sd _ _ _) (fun x hx => h216 x (by have := (zRk_mem.mp hx).1; omega)) (h216 i (by omega))
      refine ⟨(nI (i + 1), h4), ⟨rfl, e2'.tr (g2.mono (fun a k z => by unfold zsC; omega)), ?_, ?_, ?_, ?_⟩, ?_⟩
      · dsimp only
        rw [g3]
        show _ = nI (if zCn S T n u t fl i = true then zIns (zEf S) (zRk (zEf S) (zCn S T n u t fl) i) i else zRk (zEf S) (zCn S T n u t fl) i).length
        rw [if_pos hcn, zIns_len (zRk_sd _ _ _)]
      · dsimp only
        show zRow _ (if zCn S T n u t fl i = true then zIns (zEf S) (zRk (zEf S) (zCn S T n u t fl) i) i else zRk (zEf S) (zCn S T n u t fl) i)
        rw [if_pos hcn]
        exact g4
      · intro c hc
        dsimp only
        rw [g2.i (by omega)]
        exact h216 c hc
      · intro c hc
        dsimp only
        rw [g2.i (by omega), xi_ne (by decide)]
        exact e6 c hc
      · dsimp only
        rw [hstep, if_pos hz, g1, xb_some, nI_1]
    · have hz : ¬ zRf S T (nI (zRc S T i u n)) i (nI t) (zEf S i) fl = 0 := fun z => hcn (decide_eq_true z)
      refine ⟨(nI (i + 1), xm_si h2 216 i (zEf S i)), ⟨rfl, e2', ?_, ?_, h216, ?_⟩, ?_⟩
      · dsimp only
        show _ = nI (if zCn S T n u t fl i = true then zIns (zEf S) (zRk (zEf S) (zCn S T n u t fl) i) i else zRk (zEf S) (zCn S T n u t fl) i).length
        rw [if_neg hcn, xi_ne (by decide)]
        exact e3
      · dsimp only
        show zRow _ (if zCn S T n u t fl i = true then zIns (zEf S) (zRk (zEf S) (zCn S T n u t fl) i) i else zRk (zEf S) (zCn S T n u t fl) i)
        rw [if_neg hcn, zU_ot (by decide)]
        exact e4
      · intro c hc
        dsimp only
        rw [xi_ne (by decide)]
        exact e6 c hc
      · dsimp only
        rw [hstep, if_neg hz, nI_1])
  dsimp only at e1 e2 e3 e4 e5 e6
  subst e1
  have hR2 : zRA ρ nc nt nf na n S T h2 := hR.fr e2 hnc
  refine ⟨h2, hE.trans ?_, e2, e3, e4, e5, e6⟩
  show f_X2_rank_13B N ρ (nI t) fl (f_X2_rank_13 N ρ (nI t) fl m) (nI nc) h2 = _
  unfold f_X2_rank_13B
  have e7 : xm_i h2 ρ 7 = nI nc := hR2.2.1.2.2.2.2.1.trans hWT.2.2.2.2.2.1
  rw [e7, if_neg (zlt_irr _)]
/-- bits -/
theorem zand0 {a b : Nat} (ha : a < 256) (hb : b < 256) : (nI a &&& nI b = 0) ↔ ∀ w, w < 8 → ¬ (a.testBit w = true ∧ b.testBit w = true) := by
  rw [zb_and]
  have hlt : a &&& b < 256 := Nat.lt_of_le_of_lt Nat.and_le_left ha
  constructor
  · intro h w _ hw
    have h0 : a &&& b = 0 := (nI_eq (a := a &&& b) (b := 0) (by omega) (by omega)).mp h
    have := congrArg (fun z => Nat.testBit z w) h0
    simp [Nat.testBit_and, hw.1, hw.2] at this
  · intro h
    have h0 : a &&& b = 0 := by
      apply Nat.eq_of_testBit_eq
      intro w
      rw [Nat.testBit_and, Nat.zero_testBit]
      by_cases hw : w < 8
      · have := h w hw
        cases h1 : a.testBit w <;> cases h2 : b.testBit w <;> simp_all
      · have : a.testBit w = false := Nat.testBit_lt_two_pow (Nat.lt_of_lt_of_le ha (by
          have : 2 ^ 8 ≤ 2 ^ w := Nat.pow_le_pow_right (by omega) (by omega)
          exact this))
        rw [this]
        rfl
    rw [h0]
    rfl
/-- the state of the class's filling: winners W, the mask of the seen m -/
def zFc (T : zV) (e : Nat → Int32) (l : List Nat) (fl : Int32) (h : xm_H) (W : List (Nat × Nat)) : Prop := xm_i h 182 9 = nI W.length ∧ zRow (xm_i h 218) (W.map fun w => w.2) ∧ ∀ j w, W[j]? = some w → xm_i h 219 j = zPr e T l fl j w.1
theorem zc_basePrice {p : Nat} {l : List Nat} {e : Nat → Int32} {fl : Int32} (hln : l.length ≤ 8) (hl : ∀ x ∈ l, x < 8) (hp : p < l.length) (hct : xm_i h 182 6 = nI l.length) (hR : zRow (xm_i h 217) l) (he : ∀ x ∈ l, xm_i h 216 x = e x) : f_X2_basePrice (nI p) fl h = some (zBs e l fl p, h) := by
  unfold f_X2_basePrice zBs
  rw [nI_1, hct]
  by_cases h1 : p + 1 < l.length
  · have hx := List.getElem?_eq_getElem h1
    have hxm := List.getElem_mem h1
    have hr := hR (p + 1) _ hx
    have hg : l.getD (p + 1) 0 = l[p + 1] := by rw [List.getD_eq_getElem?_getD, hx]; rfl
    rw [if_pos (nI_lt h1 (by omega)), if_pos (zb_in (by omega) (by decide)), nI_clamp (by omega), hr, if_pos (zb_in (hl _ hxm) (by decide)), nI_clamp (by have := hl _ hxm; omega), he _ hxm, if_pos h1, hg]
  · rw [if_neg (nI_nlt (by omega) (by omega)), if_neg h1]
theorem zc_fill10 {k : Nat} {l : List Nat} {e : Nat → Int32} {fl : Int32} (hN : 1000 ≤ N) (hρ : xIsR ρ) (hRT : zRT ρ nc nf na T h) (hnc : nc ≤ 8) (hk : k ≤ nf) (hnf : nf ≤ 4) (hln : l.length ≤ 8) (hl : ∀ x ∈ l, x < nc) (hct : xm_i h 182 6 = nI l.length) (hR : zRow (xm_i h 217) l) (he : ∀ x ∈ l, xm_i h 216 x = e x) : ∀ (r : List Nat) (p n : Nat) (h2 : xm_H) (W : List (Nat × Nat)) (m : Nat), l.drop p = r → p + r.length = l.length → r.length < n → zF (fun a q => a = 218 ∨ a = 219 ∨ (a = 182 ∧ q = 9)) h h2 → W.length ≤ k → (∀ w ∈ W, w.2 < 8) → m < 256 → (∀ w, w < 8 → (m.testBit w = true ↔ ∃ q ∈ W, q.2 = w)) → zFc T e l fl h2 W → ∃ h', f_X2_fill_10 N ρ (nI k) fl n (nI m) (nI p) h2 = some ((), h') ∧ zF (fun a q => a = 218 ∨ a = 219 ∨ (a = 182 ∧ q = 9)) h h' ∧ zFc T e l fl h' (zFl (zAp T na) k (r.takeWhile fun c => !decide (e c < fl)) p W) := by
  intro r
  have hr164 : ρ = 164 ∨ ρ = 183 := hρ
  induction r with
  | nil =>
    intro p n h2 W m hd hp hn hF hWk hW8 hm hmb hI
    match n, hn with
    | n + 1, hn =>
      have hpl : p = l.length := by simpa using hp
      refine ⟨h2, ?_, hF, hI⟩
      show f_X2_fill_10B N ρ (nI k) fl _ (nI m) (nI p) h2 = _
      unfold f_X2_fill_10B
      rw [hF.i (by omega), hct, if_neg (nI_nlt (by omega) (by omega))]
  | cons c r ih =>
    intro p n h2 W m hd hp hn hF hWk hW8 hm hmb hI
    rw [List.length_cons] at hp
    match n, hn with
    | n + 1, hn =>
      rw [List.length_cons] at hn
      have hpl : p < l.length := by omega
      have hx : l[p]? = some c := by
        have := congrArg (fun z => z[0]?) hd
        simpa using this
      have hcm := List.mem_of_getElem? hx
      have hcn : c < nc := hl c hcm
      have hd2 : l.drop (p + 1) = r := by
        rw [← List.drop_drop, hd]
        rfl
      have hct1 : xm_i h2 182 6 = nI l.length := by rw [hF.i (by omega), hct]
      have hR1 : xm_i h2 217 = xm_i h 217 := hF.row (fun q z => by omega)
      have h16 : xm_i h2 216 = xm_i h 216 := hF.row (fun q z => by omega)
      have hrp : xm_i h2 217 p = nI c := by rw [hR1]; exact hR p c hx
      have hRT2 : zRT ρ nc nf na T h2 := zRT.fr hρ hF (fun a k z w => by omega) hnc hRT
      obtain ⟨t1, t2, t3, mm, mm1, mm2, mm3⟩ := hRT2.2.2.2.2.2.2 c hcn
      obtain ⟨i1, i2, i3⟩ := hI
      show ∃ h', f_X2_fill_10B N ρ (nI k) fl (f_X2_fill_10 N ρ (nI k) fl n) (nI m) (nI p) h2 = some ((), h') ∧ _
      unfold f_X2_fill_10B
      rw [hct1, if_pos (nI_lt hpl (by omega)), i1]
      by_cases hwk : W.length < k
      · rw [if_pos (nI_lt hwk (by omega)), if_pos (zb_in (by omega) (by decide)), nI_clamp (n := p) (by omega), hrp, if_pos (zb_in (by omega) (by decide)), nI_clamp (n := c) (by omega), h16, he c hcm]
        by_cases hfl : e c < fl
        · rw [if_pos hfl, List.takeWhile_cons_of_neg (by simp [hfl])]
          exact ⟨h2, rfl, hF, i1, i2, i3⟩
        · rw [if_neg hfl, List.takeWhile_cons_of_pos (by simp [hfl]), mm2]
          have hsame : (nI mm &&& nI m = 0) ↔ ¬ (W.any fun w => zAp T na c w.2) = true := by
            rw [zand0 mm1 hm, List.any_eq_true]
            constructor
            · rintro hh ⟨q, hq, hq2⟩
              have q8 := hW8 q hq
              refine hh q.2 q8 ⟨?_, (hmb q.2 q8).mpr ⟨q, hq, rfl⟩⟩
              rw [mm3 q.2 q8]
              exact hq2
            · rintro hh w hw ⟨hh1, hh2⟩
              obtain ⟨q, hq, hq2⟩ := (hmb w hw).mp hh2
              refine hh ⟨q, hq, ?_⟩
              rw [hq2, ← mm3 w hw]
              exact hh1
          unfold zFl
          rw [if_pos hwk]
          by_cases hb : (W.any fun w => zAp T na c w.2) = true
          · rw [if_neg (fun z => hsame.mp z hb), if_pos hb, nI_1]
            exact ih (p + 1) n h2 W m hd2 (by omega) (by omega) hF hWk hW8 hm hmb ⟨i1, i2, i3⟩
          · rw [if_pos (hsame.mpr hb), if_neg hb, if_pos (zb_in (by omega) (by decide)), nI_clamp (n := W.length) (by omega)]
            simp only [xl]
            have hF2 : zF (fun a q => a = 218 ∨ a = 219 ∨ (a = 182 ∧ q = 9)) h (xm_si h2 218 W.length (nI c)) := hF.st (Or.inl rfl)
            have hbp := zc_basePrice (p := p) (l := l) (e := e) (fl := fl) (h := xm_si h2 218 W.length (nI c)) hln (fun x hx => by have := hl x hx; omega) hpl (by rw [xi_ne (by decide)]; exact hct1) (by rw [zU_ot (by decide), hR1]; exact hR) (fun x hx => by rw [xi_ne (by decide), h16]; exact he x hx)
            have hft : xm_i (xm_si h2 218 W.length (nI c)) (ρ + 1) W.length = T (3 + W.length) := by
              rw [xi_ne (by omega)]
              exact hRT2.2.2.2.2.2.1 W.length (by omega)
            rw [hbp, xb_some, xi_ne (by decide), i1]
            simp only [nI_clamp (show W.length < 2 ^ 31 by omega), if_pos (zb_in (show W.length < 4 by omega) (by decide)), hft]
            unfold f_X2_perCent
            rw [xb_some, xi_ne (by decide), xi_ne (by decide), i1, nI_1, nI_1, zb_1sh c (by omega), zb_or]
            refine ih (p + 1) n _ (W ++ [(p, c)]) (m ||| 2 ^ c) hd2 (by omega) (by omega) ((hF2.st (Or.inr (Or.inl rfl))).st (Or.inr (Or.inr ⟨rfl, rfl⟩))) (by rw [List.length_append]; simp; omega) ?_ ?_ ?_ ⟨?_, ?_, ?_⟩
            · intro w hw
              rcases List.mem_append.mp hw with hw | hw
              · exact hW8 w hw
              · have : w = (p, c) := by simpa using hw
                rw [this]
                show c < 8
                omega
            · have h2c : (2 : Nat) ^ c < 2 ^ 8 := Nat.pow_lt_pow_right (by omega) (by omega)
              exact Nat.or_lt_two_pow (n := 8) hm h2c
            · intro w hw
              rw [Nat.testBit_or, Bool.or_eq_true, hmb w hw, Nat.testBit_two_pow, decide_eq_true_iff]
              constructor
              · rintro (⟨q, hq, hq2⟩ | hq)
                · exact ⟨q, List.mem_append_left _ hq, hq2⟩
                · exact ⟨(p, c), List.mem_append_right _ (List.mem_singleton.mpr rfl), hq⟩
              · rintro ⟨q, hq, hq2⟩
                rcases List.mem_append.mp hq with hq | hq
                · exact Or.inl ⟨q, hq, hq2⟩
                · have : q = (p, c) := by simpa using hq
                  rw [this] at hq2
                  exact Or.inr hq2
            · rw [xi_eq, List.length_append]
              rfl
            · rw [List.map_append]
              refine zRow.snoc i2 ?_ ?_
              · intro i hi
                rw [List.length_map] at hi
                rw [xi_ne (by decide), xi_ne (by decide), xi_nk (by omega)]
              · rw [List.length_map, xi_ne (by decide), xi_ne (by decide), xi_eq]
            · intro j w hw
              rw [xi_ne (by decide)]
              by_cases hj : j < W.length
              · rw [List.getElem?_append_left hj] at hw
                rw [xi_nk (by omega), xi_ne (by decide)]
                exact i3 j w hw
              · rw [List.getElem?_append_right (by omega)] at hw
                by_cases hj2 : j = W.length
                · rw [hj2, Nat.sub_self] at hw
                  have : (p, c) = w := by simpa using hw
                  rw [hj2, xi_eq, ← this]
                  rfl
                · rw [List.getElem?_eq_none (by simp; omega)] at hw
                  cases hw
      · rw [if_neg (nI_nlt (by omega) (by omega)), zFl_full (by omega)]
        exact ⟨h2, rfl, hF, i1, i2, i3⟩
theorem zc_fill {k : Nat} {l : List Nat} {e : Nat → Int32} {fl : Int32} (hN : 1000 ≤ N) (hρ : xIsR ρ) (hRT : zRT ρ nc nf na T h) (hnc : nc ≤ 8) (hk : k ≤ nf) (hnf : nf ≤ 4) (hln : l.length ≤ 8) (hl : ∀ x ∈ l, x < nc) (hct : xm_i h 182 6 = nI l.length) (hR : zRow (xm_i h 217) l) (he : ∀ x ∈ l, xm_i h 216 x = e x) : ∃ h', f_X2_fill N ρ (nI k) fl h = some ((), h') ∧ zF (fun a q => a = 218 ∨ a = 219 ∨ (a = 182 ∧ q = 9)) h h' ∧ zFc T e l fl h' (zFl (zAp T na) k (l.takeWhile fun c => !decide (e c < fl)) 0 []) := by
  unfold f_X2_fill
  simp only [xl]
  have hr164 : ρ = 164 ∨ ρ = 183 := hρ
  have hF : zF (fun a q => a = 218 ∨ a = 219 ∨ (a = 182 ∧ q = 9)) h (xm_si h 182 9 0) := zF.si (Or.inr (Or.inr ⟨rfl, rfl⟩))
  obtain ⟨h', g1, g2, g3⟩ := zc_fill10 (N := N) (ρ := ρ) (nc := nc) (nf := nf) (na := na) (T := T) (h := xm_si h 182 9 0) (k := k) (l := l) (e := e) (fl := fl) hN hρ (zRT.fr hρ hF (fun a k z w => by omega) hnc hRT) hnc hk hnf hln hl (by rw [xi_nk (by decide)]; exact hct) (by rw [zU_ot (by decide)]; exact hR) (fun x hx => by rw [xi_ne (by decide)]; exact he x hx) l 0 N _ [] 0 rfl (by omega) (by omega) zF.rf (by simp) (by intro w hw; simp at hw) (by decide) (by intro w hw; simp) ⟨xi_eq, zRow.nil, fun j w hw => by simp at hw⟩
  exact ⟨h', g1, hF.tr g2, g3⟩
end Cls2
