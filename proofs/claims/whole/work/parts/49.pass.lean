/-! ticks -/
def zMpC (nc w : Nat) (g : Nat → Int32) (S : zV) : zV := fun i => if 3 ≤ i ∧ i < 3 + 6 * nc ∧ (i - 3) % 6 = w then g ((i - 3) / 6) else S i
theorem zMpC_at {nc w c : Nat} {g : Nat → Int32} {S : zV} (hc : c < nc) (hw : w < 6) : zMpC nc w g S (3 + 6 * c + w) = g c := by
  unfold zMpC
  rw [if_pos ⟨by omega, by omega, by omega⟩, show (3 + 6 * c + w - 3) / 6 = c by omega]
theorem zMpC_ne {nc w i : Nat} {g : Nat → Int32} {S : zV} (h : ¬ (3 ≤ i ∧ i < 3 + 6 * nc ∧ (i - 3) % 6 = w)) : zMpC nc w g S i = S i := if_neg h
theorem zMpC_s {i w : Nat} {g : Nat → Int32} {S : zV} (hw : w < 6) : zMpC (i + 1) w g S = zU (zMpC i w g S) (3 + 6 * i + w) (g i) := by
  funext k
  unfold zMpC zU
  by_cases h1 : k = 3 + 6 * i + w
  · rw [if_pos (show 3 ≤ k ∧ k < 3 + 6 * (i + 1) ∧ (k - 3) % 6 = w by omega), if_pos h1, show (k - 3) / 6 = i by omega]
  · rw [if_neg h1]
    dsimp only
    by_cases h2 : 3 ≤ k ∧ k < 3 + 6 * i ∧ (k - 3) % 6 = w
    · rw [if_pos h2, if_pos (show 3 ≤ k ∧ k < 3 + 6 * (i + 1) ∧ (k - 3) % 6 = w by omega)]
    · rw [if_neg h2, if_neg (by omega)]
theorem zU_id {S : zV} {k : Nat} {v : Int32} (h : S k = v) : zU S k v = S := by
  funext j
  unfold zU
  by_cases hj : j = k
  · rw [if_pos hj, hj, h]
  · rw [if_neg hj]
def zCtl (S T : zV) (c : Nat) : Int32 :=
  if S (3 + 6 * c + 4) = 0 then S (3 + 6 * c + 3)
  else if zPl S T c < S (3 + 6 * c + 2) then (if (10 : Int32) < S (3 + 6 * c + 3) - 10 then S (3 + 6 * c + 3) - 10 else 10)
  else if S (3 + 6 * c + 2) < zPl S T c then (if S (3 + 6 * c + 3) + 5 < 100 then S (3 + 6 * c + 3) + 5 else 100)
  else S (3 + 6 * c + 3)
def zTk1 (S T : zV) (nc : Nat) : zV := zU (zMpC nc 3 (zCtl S T) S) 0 (S 0 + 1)
def zTick (S T : zV) (nc : Nat) : zV := if (S 0 + 1) - (S 0 + 1) / T 0 * T 0 = 0 then zMpC nc 3 (fun _ => 100) (zMpC nc 2 (fun _ => 0) (zTk1 S T nc)) else zTk1 S T nc
section Pass
variable {N ρ δ nc nt nf na n nv ne la nb bo no cap L : Nat} {xs : zV} {S T : zV} {h : xm_H} {x y z w : Int32}
theorem zs_control {c : Nat} (hc : c < 8) (hd : ¬ xm_i h 308 0 = 0) : ∃ h', f_X11_control (nI c) h = some ((), h') ∧ zF (fun a k => a = 303 ∧ k < 51) h h' ∧ xm_i h' 303 = zU (xm_i h 303) (3 + 6 * c + 3) (zCtl (xm_i h 303) (xm_i h 308) c) := by
  unfold f_X11_control zCtl
  rw [zs_of4 hc, xb_some]
  by_cases h1 : xm_i h 303 (3 + 6 * c + 4) = 0
  · rw [if_pos h1, if_pos h1]
    exact ⟨h, rfl, zF.rf, (zU_id rfl).symm⟩
  rw [if_neg h1, if_neg h1, zs_planOf hc hd, xb_some, zs_of3 hc, xb_some, zs_of2 hc, xb_some]
  by_cases h2 : zPl (xm_i h 303) (xm_i h 308) c < xm_i h 303 (3 + 6 * c + 2)
  · rw [if_pos h2, if_pos h2, zs_set3 hc, xb_some]
    exact ⟨_, rfl, zF.si ⟨rfl, by omega⟩, zU_si _ _ _ _⟩
  rw [if_neg h2, if_neg h2, zs_of2 hc, xb_some]
  by_cases h3 : xm_i h 303 (3 + 6 * c + 2) < zPl (xm_i h 303) (xm_i h 308) c
  · rw [if_pos h3, if_pos h3, zs_set3 hc, xb_some]
    exact ⟨_, rfl, zF.si ⟨rfl, by omega⟩, zU_si _ _ _ _⟩
  · rw [if_neg h3, if_neg h3]
    exact ⟨h, rfl, zF.rf, (zU_id rfl).symm⟩
theorem zs_passTick (hN : 1000 ≤ N) (hnc : nc ≤ 8) (hC : xm_i h 308 14 = nI nc) (hd : ¬ xm_i h 308 0 = 0) : ∃ h', f_X11_passTick N h = some ((), h') ∧ zF (fun a k => a = 303 ∧ k < 51) h h' ∧ xm_i h' 303 = zTick (xm_i h 303) (xm_i h 308) nc := by
  unfold f_X11_passTick
  obtain ⟨m, ⟨c1, g⟩, ⟨e1, e2, e3⟩, hE⟩ := zlpO (N := N) (F := fun n s => fun K => f_X11_passTick_2 N K n s.1 s.2) (I := fun i s => s.1 = nI i ∧ zF (fun a k => a = 303 ∧ k < 51) h s.2 ∧ xm_i s.2 303 = zMpC i 3 (zCtl (xm_i h 303) (xm_i h 308)) (xm_i h 303)) (L := nc) (s := (0, h)) (by omega) ⟨rfl, zF.rf, funext fun k => (zMpC_ne (by omega)).symm⟩ (by
    rintro m i ⟨c1, g⟩ hi ⟨e1, e2, e3⟩
    dsimp only at e1 e2 e3 ⊢
    subst e1
    have eT : xm_i g 308 = xm_i h 308 := e2.row (fun k z => by omega)
    have hv : ∀ w, w < 6 → xm_i g 303 (3 + 6 * i + w) = xm_i h 303 (3 + 6 * i + w) := fun w hw => by rw [e3, zMpC_ne (by omega)]
    have hv0 : xm_i g 303 0 = xm_i h 303 0 := by rw [e3, zMpC_ne (by omega)]
    have hct : zCtl (xm_i g 303) (xm_i g 308) i = zCtl (xm_i h 303) (xm_i h 308) i := by
      unfold zCtl zPl
      rw [hv 4 (by omega), hv 3 (by omega), hv 2 (by omega), hv 1 (by omega), hv0, eT]
    have hstep : ∀ g', f_X11_control (nI i) g = some ((), g') → (fun K => f_X11_passTick_2 N K (m + 1) (nI i) g) = fun K => f_X11_passTick_2 N K m (nI (i + 1)) g' := fun g' hg' => by
      funext K
      show f_X11_passTick_2B N K (f_X11_passTick_2 N K m) (nI i) g = _
      unfold f_X11_passTick_2B
      rw [eT, hC, if_pos (nI_lt hi (by omega)), hg', xb_some, nI_1]
    rw [zMpC_s (by omega)]
    obtain ⟨g', k1, k2, k3⟩ := zs_control (c := i) (h := g) (by omega) (by rw [eT]; exact hd)
    refine ⟨(nI (i + 1), g'), ⟨rfl, e2.tr k2, ?_⟩, hstep _ k1⟩
    dsimp only
    rw [k3, hct, e3])
  dsimp only at e1 e2 e3
  subst e1
  have eT : xm_i g 308 = xm_i h 308 := e2.row (fun k z => by omega)
  have hE2 : ∀ K, f_X11_passTick_2 N K N 0 h = K g := fun K => by
    refine (congrFun hE K).trans ?_
    show f_X11_passTick_2B N K (f_X11_passTick_2 N K m) (nI nc) g = _
    unfold f_X11_passTick_2B
    rw [eT, hC, if_neg (zlt_irr _)]
  rw [hE2]
  simp only [xl]
  have hg0 : xm_i g 303 0 = xm_i h 303 0 := by rw [e3, zMpC_ne (by omega)]
  have hR1 : xm_i (xm_si g 303 0 (xm_i g 303 0 + 1)) 303 = zTk1 (xm_i h 303) (xm_i h 308) nc := by
    rw [zU_si, e3, zMpC_ne (by omega)]
    rfl
  have hF1 : zF (fun a k => a = 303 ∧ k < 51) h (xm_si g 303 0 (xm_i g 303 0 + 1)) := e2.st ⟨rfl, by omega⟩
  have eT1 : xm_i (xm_si g 303 0 (xm_i g 303 0 + 1)) 308 = xm_i h 308 := hF1.row (fun k z => by omega)
  have hz0 : zTk1 (xm_i h 303) (xm_i h 308) nc 0 = xm_i h 303 0 + 1 := zU_eq
  generalize xm_si g 303 0 (xm_i g 303 0 + 1) = g1 at *
  rw [eT1, if_pos hd, hR1, hz0]
  unfold zTick
  by_cases hday : xm_i h 303 0 + 1 - (xm_i h 303 0 + 1) / xm_i h 308 0 * xm_i h 308 0 = 0
  · rw [if_pos hday, if_pos hday]
    obtain ⟨m2, ⟨c2, g2⟩, ⟨d1, d2, d3⟩, hE3⟩ := zlpO (N := N) (F := fun n s => f_X11_passTick_52 N n s.1 s.2) (I := fun i s => s.1 = nI i ∧ zF (fun a k => a = 303 ∧ k < 51) h s.2 ∧ xm_i s.2 303 = zMpC i 3 (fun _ => 100) (zMpC i 2 (fun _ => 0) (zTk1 (xm_i h 303) (xm_i h 308) nc))) (L := nc) (s := (0, g1)) (by omega) ⟨rfl, hF1, by rw [hR1]; exact funext fun k => by rw [zMpC_ne (by omega), zMpC_ne (by omega)]⟩ (by
      rintro m i ⟨c1, g2⟩ hi ⟨d1, d2, d3⟩
      dsimp only at d1 d2 d3 ⊢
      subst d1
      have eT2 : xm_i g2 308 = xm_i h 308 := d2.row (fun k z => by omega)
      refine ⟨(nI (i + 1), xm_si (xm_si g2 303 (3 + 6 * i + 2) 0) 303 (3 + 6 * i + 3) 100), ⟨rfl, (d2.st ⟨rfl, by omega⟩).st ⟨rfl, by omega⟩, ?_⟩, ?_⟩
      · dsimp only
        rw [zU_si, zU_si, d3, zMpC_s (by omega), zMpC_s (by omega)]
        funext k
        unfold zU
        by_cases k3 : k = 3 + 6 * i + 3
        · rw [if_pos k3, if_pos k3]
        · rw [if_neg k3, if_neg k3]
          by_cases k2 : k = 3 + 6 * i + 2
          · rw [if_pos k2, zMpC_ne (by omega), if_pos k2]
          · rw [if_neg k2]
            unfold zMpC
            dsimp only
            rw [if_neg k2]
      · show f_X11_passTick_52B N (f_X11_passTick_52 N m) (nI i) g2 = _
        unfold f_X11_passTick_52B
        rw [eT2, hC, if_pos (nI_lt hi (by omega)), zs_set2 (by omega), xb_some, zs_set3 (by omega), xb_some, nI_1])
    dsimp only at d1 d2 d3
    subst d1
    have eT2 : xm_i g2 308 = xm_i h 308 := d2.row (fun k z => by omega)
    refine ⟨g2, hE3.trans ?_, d2, d3⟩
    show f_X11_passTick_52B N (f_X11_passTick_52 N m2) (nI nc) g2 = _
    unfold f_X11_passTick_52B
    rw [eT2, hC, if_neg (zlt_irr _)]
  · rw [if_neg hday, if_neg hday]
    exact ⟨g1, rfl, hF1, hR1⟩
end Pass
