/-! the reference's auction -/
def zi (b : Bool) : Int32 := if b = true then 1 else 0
theorem zi_01 (b : Bool) : zi b = 0 ∨ zi b = 1 := by cases b <;> simp [zi]
def zbit (x : Int32) (c : Nat) : Bool := decide ((x >>> (nI c &&& 31)) &&& 1 = 1)
def zAp (T : zV) (na c w : Nat) : Bool := (List.range na).any fun k => zbit (T (64 + k)) c && zbit (T (64 + k)) w && !decide (w = c)
def zCn (S T : zV) (n : Nat) (u : Int32) (t : Nat) (fl : Int32) (c : Nat) : Bool := decide (zRf S T (nI (zRc S T c u n)) c (nI t) (zEf S c) fl = 0)
def zCon (S T : zV) (n : Nat) (u : Int32) (t c : Nat) : Bool := zCn S T n u t (S (51 + t)) c
def zL (S T : zV) (n : Nat) (u : Int32) (t nc : Nat) : List Nat := zRk (zEf S) (zCon S T n u t) nc
def zW (S T : zV) (na n : Nat) (u : Int32) (t nc k : Nat) : List (Nat × Nat) := zFl (zAp T na) k (zL S T n u t nc) 0 []
def zsM (a k : Nat) : Prop := a = 312 ∨ a = 313 ∨ a = 314 ∨ (a = 302 ∧ (k = 27 ∨ k = 28))
theorem zpos (p : Nat) (h : p + 1 < 2 ^ 31) : (0 : Int32) < nI (p + 1) := nI_lt (a := 0) (by omega) h
theorem zs_rankOne_lp {N c : Nat} {h : xm_H} {l : List Nat} (hN : 1000 ≤ N) (hc : c < 8) (hln : l.length < 8) (hl : ∀ x ∈ l, x < 8) (hR : zRow (xm_i h 312) l) (hs : zSd (zEf (xm_i h 303)) l) : ∃ h1, (∀ K, f_X11_rankOne_5 N (nI c) K N (nI l.length) h = K (nI (l.filter (fun y => !decide (zEf (xm_i h 303) y < zEf (xm_i h 303) c))).length) h1) ∧ zF (fun a _ => a = 312) h h1 ∧ (∀ i, i < (l.filter (fun y => !decide (zEf (xm_i h 303) y < zEf (xm_i h 303) c))).length → xm_i h1 312 i = xm_i h 312 i) ∧ (∀ i, (l.filter (fun y => !decide (zEf (xm_i h 303) y < zEf (xm_i h 303) c))).length < i → i ≤ l.length → xm_i h1 312 i = xm_i h 312 (i - 1)) := by
  generalize hS : xm_i h 303 = S at *
  have hq := zIns_q (e := zEf S) (l := l) (c := c)
  have hlo : ∀ i x, i < (l.filter (fun y => !decide (zEf S y < zEf S c))).length → l[i]? = some x → ¬ zEf S x < zEf S c := fun i x => zIns_lo hs
  have hhi : ∀ i x, (l.filter (fun y => !decide (zEf S y < zEf S c))).length ≤ i → l[i]? = some x → zEf S x < zEf S c := fun i x => zIns_hi hs
  generalize (l.filter (fun y => !decide (zEf S y < zEf S c))).length = q at *
  obtain ⟨m, ⟨at', h1⟩, ⟨e1, e2, e3, e4⟩, hE⟩ := zlpO (N := N) (F := fun n s => fun K => f_X11_rankOne_5 N (nI c) K n s.1 s.2) (I := fun j s => s.1 = nI (l.length - j) ∧ zF (fun a _ => a = 312) h s.2 ∧ (∀ i, i < l.length - j → xm_i s.2 312 i = xm_i h 312 i) ∧ (∀ i, l.length - j < i → i ≤ l.length → xm_i s.2 312 i = xm_i h 312 (i - 1))) (L := l.length - q) (s := (nI l.length, h)) (by omega) ⟨rfl, zF.rf, fun _ _ => rfl, fun i h1 h2 => by omega⟩ (by
    rintro m j ⟨at', h1⟩ hj ⟨e1, e2, e3, e4⟩
    obtain ⟨p, hp⟩ : ∃ p, l.length - j = p + 1 := ⟨l.length - j - 1, by omega⟩
    have hpl : p < l.length := by omega
    have hx := List.getElem?_eq_getElem hpl
    have hx8 := hl _ (List.getElem_mem hpl)
    have hlt := hhi p _ (by omega) hx
    have hr := hR p _ hx
    generalize l[p] = x at *
    dsimp only at e1 e2 e3 e4 ⊢
    subst e1
    rw [hp] at e3 e4 ⊢
    refine ⟨(nI (l.length - (j + 1)), xm_si h1 312 (p + 1) (nI x)), ⟨rfl, e2.st rfl, ?_, ?_⟩, ?_⟩
    · intro i hi
      dsimp only
      rw [xi_nk (by omega)]
      exact e3 i (by omega)
    · intro i hi1 hi2
      dsimp only
      by_cases hi : i = p + 1
      · rw [hi, xi_eq, show p + 1 - 1 = p by omega, hr]
      · rw [xi_nk hi]
        exact e4 i (by omega) hi2
    · funext K
      show f_X11_rankOne_5B N (nI c) K (f_X11_rankOne_5 N (nI c) K m) (nI (p + 1)) h1 = f_X11_rankOne_5 N (nI c) K m (nI (l.length - (j + 1))) (xm_si h1 312 (p + 1) (nI x))
      generalize f_X11_rankOne_5 N (nI c) K m = rec
      have hS1 : xm_i h1 303 = S := by rw [e2.row (fun _ z => by omega)]; exact hS
      have hrx : xm_i h1 312 p = nI x := (e3 p (by omega)).trans hr
      unfold f_X11_rankOne_5B
      rw [if_pos (zpos p (by omega)), nI_pred, if_pos (zb_in (by omega) (by decide)), nI_clamp (by omega), hrx, zs_effective hx8, xb_some, zs_effective hc, xb_some, hS1, if_pos hlt, if_pos (zb_in (by omega) (by decide)), nI_clamp (by omega), pk_m1, hrx, show l.length - (j + 1) = p by omega]
      rfl)
  dsimp only at e1 e2 e3 e4 hE
  rw [show l.length - (l.length - q) = q by omega] at e1 e3 e4
  subst e1
  refine ⟨h1, fun K => ?_, e2, e3, e4⟩
  have hS1 : xm_i h1 303 = S := by rw [e2.row (fun _ z => by omega)]; exact hS
  rw [show f_X11_rankOne_5 N (nI c) K N (nI l.length) h = f_X11_rankOne_5 N (nI c) K (m + 1) (nI q) h1 from congrFun hE K]
  show f_X11_rankOne_5B N (nI c) K (f_X11_rankOne_5 N (nI c) K m) (nI q) h1 = _
  unfold f_X11_rankOne_5B
  match q, hlo, hq, e3 with
  | 0, _, _, _ => rw [if_neg (show ¬ (0 : Int32) < nI 0 from zlt_irr 0)]
  | p + 1, hlo, hq, e3 =>
    have hpl : p < l.length := by omega
    have hx := List.getElem?_eq_getElem hpl
    have hx8 := hl _ (List.getElem_mem hpl)
    have hnl := hlo p _ (by omega) hx
    have hr := hR p _ hx
    have hrx := (e3 p (by omega)).trans hr
    rw [if_pos (zpos p (by omega)), nI_pred, if_pos (zb_in (by omega) (by decide)), nI_clamp (by omega), hrx, zs_effective hx8, xb_some, zs_effective hc, xb_some, hS1, if_neg hnl]
theorem zs_rankOne {N c : Nat} {h : xm_H} {l : List Nat} (hN : 1000 ≤ N) (hc : c < 8) (hln : l.length < 8) (hl : ∀ x ∈ l, x < 8) (hct : xm_i h 302 27 = nI l.length) (hR : zRow (xm_i h 312) l) (hs : zSd (zEf (xm_i h 303)) l) : ∃ h', f_X11_rankOne N (nI c) h = some ((), h') ∧ zF zsM h h' ∧ xm_i h' 302 27 = nI (l.length + 1) ∧ xm_i h' 302 28 = xm_i h 302 28 ∧ zRow (xm_i h' 312) (zIns (zEf (xm_i h 303)) l c) := by
  obtain ⟨h1, hE, e2, e3, e4⟩ := zs_rankOne_lp hN hc hln hl hR hs
  have hq := zIns_q (e := zEf (xm_i h 303)) (l := l) (c := c)
  have hc1 : xm_i h1 302 27 = nI l.length := by rw [e2.i (by omega)]; exact hct
  unfold f_X11_rankOne
  rw [hct, hE, if_pos (zb_in (by omega) (by decide)), nI_clamp (by omega)]
  simp only [xl]
  rw [xi_ne (by decide), hc1, nI_1]
  refine ⟨_, rfl, ((e2.mono (fun a k z => Or.inl z)).st (Or.inl rfl)).st (Or.inr (Or.inr (Or.inr ⟨rfl, Or.inl rfl⟩))), xi_eq, ?_, ?_⟩
  · rw [xi_nk (by decide), xi_ne (by decide), e2.i (by omega)]
  · rw [zU_ot (by decide)]
    refine zRow.ins hs hR xi_eq ?_ ?_
    · intro i hi
      rw [xi_nk (by omega)]
      exact e3 i hi
    · intro i h1 h2
      rw [xi_nk (by omega)]
      exact e4 i h1 h2
