/-! trials: requests and ticks ahead, on both sides -/
def zAh (T : zV) (na t nc k n : Nat) (S : zV) : Nat → Nat × zV
  | 0 => (n, S)
  | i + 1 => ((zAh T na t nc k n S i).1 + (zW (zAh T na t nc k n S i).2 T na (zAh T na t nc k n S i).1 (nI (i % 16)) t nc k).length, zTick (zSvc (zAh T na t nc k n S i).2 T na (zAh T na t nc k n S i).1 (nI (i % 16)) t nc k) T nc)
def zAr (T : zV) (na t nc k n : Nat) (S : zV) : Nat → Int32
  | 0 => 0
  | i + 1 => zAr T na t nc k n S i + zsm (zwp (zAh T na t nc k n S i).2 T na (zAh T na t nc k n S i).1 (nI (i % 16)) t nc k) (zW (zAh T na t nc k n S i).2 T na (zAh T na t nc k n S i).1 (nI (i % 16)) t nc k).length
theorem zsm_add (f : Nat → Int32) (a : Nat) : ∀ b, zsm f (a + b) = zsm f a + zsm (fun j => f (a + j)) b := by
  intro b
  induction b with
  | zero =>
    show zsm f a = zsm f a + 0
    rw [Int32.add_zero]
  | succ b ih =>
    show zsm f (a + b) + f (a + b) = zsm f a + (zsm (fun j => f (a + j)) b + f (a + b))
    rw [ih, Int32.add_assoc]
section Ah
variable {N ρ δ nc nt nf na n nv ne la nb bo no cap L t k tk : Nat} {xs : zV} {S T : zV} {h g : xm_H} {u x y z : Int32} {cs : Nat → Nat} {ps : Nat → Int32}
theorem zSj_im : ∀ m, (∀ j, j < m → cs j < 8) → ∀ j, j < m → zSj u n cs ps S m (57 + 5 * (n + j) + 4) = ps j := by
  intro m
  induction m with
  | zero => intro _ j hj; omega
  | succ m ih =>
    intro hc j hj
    unfold zSj
    by_cases hjm : j = m
    · subst hjm
      exact (zS1_im (hc j (by omega))).2.2.2.2
    · have := hc m (by omega)
      rw [zS1_ot (by omega) (by omega) (by omega)]
      exact ih (fun j hj => hc j (by omega)) j (by omega)
theorem zAh_ok (hWT : zWT nc nt nf na T) (hWS : zWS nc nt n nv S) (ht : t < nt) (hk : k ≤ nf) (htk : S 0 = nI tk) (htb : tk ≤ 9999) : ∀ i, n + 4 * i ≤ 400 → zWS nc nt (zAh T na t nc k n S i).1 nv (zAh T na t nc k n S i).2 ∧ (zAh T na t nc k n S i).2 0 = nI (tk + i) ∧ n ≤ (zAh T na t nc k n S i).1 ∧ (zAh T na t nc k n S i).1 ≤ n + 4 * i ∧ (∀ r, 57 ≤ r → r < 57 + 5 * n → (zAh T na t nc k n S i).2 r = S r) ∧ zAr T na t nc k n S i = zsm (fun j => (zAh T na t nc k n S i).2 (57 + 5 * (n + j) + 4)) ((zAh T na t nc k n S i).1 - n) := by
  have hnf := hWT.2.2.2.1
  have hnc := hWT.1
  intro i
  induction i with
  | zero => intro _; exact ⟨hWS, htk, Nat.le_refl _, Nat.le_refl _, fun _ _ _ => rfl, by show (0 : Int32) = zsm _ (n - n); rw [Nat.sub_self]; rfl⟩
  | succ i ih =>
    intro hb
    obtain ⟨a1, a2, a3, a4, a5, a6⟩ := ih (by omega)
    have hR : zAr T na t nc k n S (i + 1) = zAr T na t nc k n S i + zsm (zwp (zAh T na t nc k n S i).2 T na (zAh T na t nc k n S i).1 (nI (i % 16)) t nc k) (zW (zAh T na t nc k n S i).2 T na (zAh T na t nc k n S i).1 (nI (i % 16)) t nc k).length := rfl
    rw [hR, a6]
    show zWS nc nt ((zAh T na t nc k n S i).1 + (zW (zAh T na t nc k n S i).2 T na (zAh T na t nc k n S i).1 (nI (i % 16)) t nc k).length) nv (zTick (zSvc (zAh T na t nc k n S i).2 T na (zAh T na t nc k n S i).1 (nI (i % 16)) t nc k) T nc) ∧ (zTick (zSvc (zAh T na t nc k n S i).2 T na (zAh T na t nc k n S i).1 (nI (i % 16)) t nc k) T nc) 0 = _ ∧ n ≤ (zAh T na t nc k n S i).1 + (zW (zAh T na t nc k n S i).2 T na (zAh T na t nc k n S i).1 (nI (i % 16)) t nc k).length ∧ (zAh T na t nc k n S i).1 + (zW (zAh T na t nc k n S i).2 T na (zAh T na t nc k n S i).1 (nI (i % 16)) t nc k).length ≤ _ ∧ (∀ r, 57 ≤ r → r < 57 + 5 * n → (zTick (zSvc (zAh T na t nc k n S i).2 T na (zAh T na t nc k n S i).1 (nI (i % 16)) t nc k) T nc) r = S r) ∧ _ = zsm (fun j => (zTick (zSvc (zAh T na t nc k n S i).2 T na (zAh T na t nc k n S i).1 (nI (i % 16)) t nc k) T nc) (57 + 5 * (n + j) + 4)) ((zAh T na t nc k n S i).1 + (zW (zAh T na t nc k n S i).2 T na (zAh T na t nc k n S i).1 (nI (i % 16)) t nc k).length - n)
    generalize (zAh T na t nc k n S i).1 = n1 at *
    generalize (zAh T na t nc k n S i).2 = S1 at *
    have hu : zB 0 15 (nI (i % 16)) := zB.nI (by omega) (by omega)
    have hl := @zW_len nc na n1 t k S1 T (nI (i % 16))
    have w1 := zSvc_ws (u := nI (i % 16)) hWT a1 ht hk (by omega) hu
    have o := fun (r : Nat) (h1 : r ≠ 1) (h2 : r < 3 ∨ 51 ≤ r) (h3 : r < 57 + 5 * n1 ∨ 57 + 5 * (n1 + k) ≤ r) => zSvc_ot (u := nI (i % 16)) (i := r) h1 (fun c hc => by omega) hWT a1 ht hk h3
    have e0 : zSvc S1 T na n1 (nI (i % 16)) t nc k 0 = nI (tk + i) := (o 0 (by omega) (by omega) (by omega)).trans a2
    have im : ∀ j, j < (zW S1 T na n1 (nI (i % 16)) t nc k).length → zSvc S1 T na n1 (nI (i % 16)) t nc k (57 + 5 * (n1 + j) + 4) = zwp S1 T na n1 (nI (i % 16)) t nc k j := zSj_im _ (fun j hj => by have := (zW_ok hWT a1 ht hk hj).1; omega)
    refine ⟨zTk_ws hnc w1 e0 (by omega), by rw [zTk_0, e0, nI_1]; rfl, by omega, by omega, fun r h1 h2 => ?_, ?_⟩
    · rw [zTk_hi hnc (by omega), o r (by omega) (by omega) (by omega)]
      exact a5 r h1 h2
    · rw [show n1 + (zW S1 T na n1 (nI (i % 16)) t nc k).length - n = (n1 - n) + (zW S1 T na n1 (nI (i % 16)) t nc k).length by omega, zsm_add]
      congr 1
      · refine zsm_congr (fun j hj => ?_)
        rw [zTk_hi hnc (by omega), o _ (by omega) (by omega) (by omega)]
      · refine zsm_congr (fun j hj => ?_)
        rw [zTk_hi hnc (by omega), show n + (n1 - n + j) = n1 + j by omega]
        exact (im j hj).symm
theorem zc_try {m : Nat} (hN : 1000 ≤ N) (hR : zRA ρ nc nt nf na n S T h) (hWT : zWT nc nt nf na T) (hWS : zWS nc nt n nv S) (ht : t < nt) (hk : k ≤ nf) (htk : S 0 = nI tk) (htb : tk ≤ 9999) (hn : n ≤ 160) (hm : m ≤ 60) : ∃ g, f_X10_tryAhead N ρ (nI t) (nI k) (nI m) h = some ((), g) ∧ zF (fun a q => zsC a q ∨ zAs n a q ∨ a = 207) h g ∧ zRA ρ nc nt nf na (zAh T na t nc k n S m).1 (zAh T na t nc k n S m).2 T g := by
  have hnf := hWT.2.2.2.1
  unfold f_X10_tryAhead
  obtain ⟨m2, ⟨c2, g⟩, ⟨e1, e2, e3⟩, hE⟩ := zlpO (N := N) (F := fun n s => f_X10_tryAhead_3 N ρ (nI t) (nI k) (nI m) n s.1 s.2) (I := fun i s => s.1 = nI i ∧ zF (fun a q => zsC a q ∨ zAs n a q ∨ a = 207) h s.2 ∧ zRA ρ nc nt nf na (zAh T na t nc k n S i).1 (zAh T na t nc k n S i).2 T s.2) (L := m) (s := (0, h)) (by omega) ⟨rfl, zF.rf, (by exact hR)⟩ (by
    rintro m2 i ⟨c2, g⟩ hi ⟨e1, e2, e3⟩
    dsimp only at e1 e2 e3 ⊢
    subst e1
    obtain ⟨a1, a2, a3, a4, a5, a6⟩ := zAh_ok hWT hWS ht hk htk htb i (by omega)
    obtain ⟨g1, r1, r2, r3⟩ := zc_serve (N := N) (u := nI (i % 16)) (k := k) hN e3 hWT a1 ht hk (by omega)
    have e0 : zSvc (zAh T na t nc k n S i).2 T na (zAh T na t nc k n S i).1 (nI (i % 16)) t nc k 0 = nI (tk + i) := (zSvc_ot (by omega) (fun c hc => by omega) hWT a1 ht hk (by omega)).trans a2
    obtain ⟨g2, p1, p2, p3⟩ := zc_passTick (N := N) hN r3 hWT e0 (by omega)
    refine ⟨(nI (i + 1), g2), ⟨rfl, e2.tr ((r2.mono (fun a q z => ?_)).tr (p2.mono (fun a q z => ?_))), p3⟩, ?_⟩
    · rcases z with z | z
      · exact Or.inl z
      · refine Or.inr (Or.inl ?_)
        unfold zAs at z ⊢
        omega
    · right
      unfold zAs
      omega
    · show f_X10_tryAhead_3B N ρ (nI t) (nI k) (nI m) (f_X10_tryAhead_3 N ρ (nI t) (nI k) (nI m) m2) (nI i) g = _
      unfold f_X10_tryAhead_3B
      rw [if_pos (nI_lt hi (by omega)), show (16 : Int32) = nI 16 from rfl, pk_rem (by omega) (by omega) (by omega), r1, xb_some, p1, xb_some, nI_1])
  dsimp only at e1 e2 e3
  subst e1
  refine ⟨g, hE.trans ?_, e2, e3⟩
  show f_X10_tryAhead_3B N ρ (nI t) (nI k) (nI m) (f_X10_tryAhead_3 N ρ (nI t) (nI k) (nI m) m2) (nI m) g = _
  unfold f_X10_tryAhead_3B
  rw [if_neg (zlt_irr _)]
theorem zs_ahead {m : Nat} (hN : 1000 ≤ N) (eS : xm_i h 303 = S) (eT : xm_i h 308 = T) (hWT : zWT nc nt nf na T) (hWS : zWS nc nt n nv S) (ht : t < nt) (hk : k ≤ nf) (htk : S 0 = nI tk) (htb : tk ≤ 9999) (hn : n ≤ 160) (hm : m ≤ 60) : ∃ g, f_X11_goAhead N (nI t) (nI k) (nI m) h = some (zAr T na t nc k n S m, g) ∧ zF (fun a q => zsM a q ∨ (a = 303 ∧ q < 2217)) h g ∧ xm_i g 303 = (zAh T na t nc k n S m).2 := by
  have hnf := hWT.2.2.2.1
  have hd : ¬ T 0 = 0 := by
    obtain ⟨d, d1, d2, d3⟩ := hWT.2.2.2.2.2.2.2.2.2.1
    rw [d3]
    exact nI_ne0 (by omega) (by omega)
  unfold f_X11_goAhead
  obtain ⟨m2, ⟨c1, c2, g⟩, ⟨e0, e1, e2, e3⟩, hE⟩ := zlpO (N := N) (F := fun n s => f_X11_goAhead_6 N (nI t) (nI k) (nI m) n s.1 s.2.1 s.2.2) (I := fun i s => s.1 = zAr T na t nc k n S i ∧ s.2.1 = nI i ∧ zF (fun a q => zsM a q ∨ (a = 303 ∧ q < 2217)) h s.2.2 ∧ xm_i s.2.2 303 = (zAh T na t nc k n S i).2) (L := m) (s := (0, 0, h)) (by omega) ⟨rfl, rfl, zF.rf, eS⟩ (by
    rintro m2 i ⟨c1, c2, g⟩ hi ⟨e0, e1, e2, e3⟩
    dsimp only at e0 e1 e2 e3 ⊢
    subst e1
    subst e0
    obtain ⟨a1, a2, a3, a4, a5, a6⟩ := zAh_ok hWT hWS ht hk htk htb i (by omega)
    have eT1 : xm_i g 308 = T := (e2.row (fun k z => by unfold zsM at z; omega)).trans eT
    obtain ⟨g1, g2, r1, r2, r3, r4, r5⟩ := zs_serve (N := N) (h := g) (n := (zAh T na t nc k n S i).1) (nv := nv) (nc := nc) (nt := nt) (nf := nf) (na := na) (t := t) (k := k) (u := nI (i % 16)) hN (by rw [eT1]; exact hWT) (by rw [e3]; exact a1) ht hk (by omega)
    rw [e3, eT1] at r2 r4
    have eT2 : xm_i g2 308 = T := (r3.row (fun k z => by unfold zsM at z; omega)).trans eT1
    obtain ⟨g3, p1, p2, p3⟩ := zs_passTick (N := N) (nc := nc) (h := g2) hN hWT.1 (by rw [eT2]; exact hWT.2.2.2.2.2.1) (by rw [eT2]; exact hd)
    rw [r4, eT2] at p3
    refine ⟨(zAr T na t nc k n S (i + 1), nI (i + 1), g3), ⟨rfl, rfl, (e2.tr r3).tr (p2.mono (fun a q z => Or.inr ⟨z.1, by omega⟩)), p3⟩, ?_⟩
    show f_X11_goAhead_6B N (nI t) (nI k) (nI m) (f_X11_goAhead_6 N (nI t) (nI k) (nI m) m2) (zAr T na t nc k n S i) (nI i) g = _
    unfold f_X11_goAhead_6B
    rw [if_pos (nI_lt hi (by omega)), show (16 : Int32) = nI 16 from rfl, pk_rem (by omega) (by omega) (by omega), r1, xb_some, r2, xb_some, p1, xb_some, nI_1]
    rfl)
  dsimp only at e0 e1 e2 e3
  subst e1
  subst e0
  refine ⟨g, hE.trans ?_, e2, e3⟩
  show f_X11_goAhead_6B N (nI t) (nI k) (nI m) (f_X11_goAhead_6 N (nI t) (nI k) (nI m) m2) (zAr T na t nc k n S m) (nI m) g = _
  unfold f_X11_goAhead_6B
  rw [if_neg (zlt_irr _)]
theorem zs_copy {a b : Nat} (hN : 20000 ≤ N) (ha : xm_k h a = (100, 2217)) (hb : xm_k h b = (100, 2217)) (hb1 : 160 ≤ b) (hab : a ≠ b) : ∃ g, f_X11_copy N a b h = some ((), g) ∧ zF (fun c k => c = b ∧ k < 2217) h g ∧ ∀ i, i < 2217 → xm_i g b i = xm_i h a i := by
  unfold f_X11_copy
  obtain ⟨m2, ⟨c2, g⟩, ⟨e1, e2, e3⟩, hE⟩ := zlpO (N := N) (F := fun n s => f_X11_copy_2 N a b n s.1 s.2) (I := fun i s => s.1 = nI i ∧ zF (fun c k => c = b ∧ k < 2217) h s.2 ∧ ∀ j, j < i → xm_i s.2 b j = xm_i h a j) (L := 2217) (s := (0, h)) (by omega) ⟨rfl, zF.rf, fun j hj => by omega⟩ (by
    rintro m2 i ⟨c2, g⟩ hi ⟨e1, e2, e3⟩
    dsimp only at e1 e2 e3 ⊢
    subst e1
    have ka : xm_k g a = (100, 2217) := (e2.k a).trans ha
    have kb : xm_k g b = (100, 2217) := (e2.k b).trans hb
    refine ⟨(nI (i + 1), xm_si g b i (xm_i g a i)), ⟨rfl, e2.st ⟨rfl, hi⟩, fun j hj => ?_⟩, ?_⟩
    · dsimp only
      by_cases hji : j = i
      · subst hji
        rw [xi_eq, e2.i (by omega)]
      · rw [xi_nk hji]
        exact e3 j (by omega)
    · show f_X11_copy_2B N a b (f_X11_copy_2 N a b m2) (nI i) g = _
      unfold f_X11_copy_2B
      rw [if_pos (show nI i < 2217 from nI_lt (b := 2217) hi (by omega)), ka, kb]
      simp only [if_true, if_pos (zb_in hi (show 2217 < 2 ^ 31 by decide)), nI_clamp (show i < 2 ^ 31 by omega), if_pos hb1, xl, nI_1])
  dsimp only at e1 e2 e3
  subst e1
  refine ⟨g, hE.trans ?_, e2, e3⟩
  show f_X11_copy_2B N a b (f_X11_copy_2 N a b m2) (nI 2217) g = _
  unfold f_X11_copy_2B
  rw [if_neg (show ¬ nI 2217 < 2217 from zlt_irr (nI 2217))]
end Ah
