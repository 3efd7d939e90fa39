/-! an auction served, on both sides -/
theorem zFl_ix {ap : Nat → Nat → Bool} {k : Nat} : ∀ {l : List Nat} {p : Nat} {W : List (Nat × Nat)}, ∃ V, zFl ap k l p W = W ++ V ∧ (∀ v ∈ V, p ≤ v.1 ∧ l[v.1 - p]? = some v.2) ∧ (V.map fun w => w.2).Sublist l := by
  intro l
  induction l with
  | nil => intro p W; exact ⟨[], by simp [zFl], by simp, by simp⟩
  | cons c l ih =>
    intro p W
    unfold zFl
    have up : ∀ v : Nat × Nat, p + 1 ≤ v.1 ∧ l[v.1 - (p + 1)]? = some v.2 → p ≤ v.1 ∧ (c :: l)[v.1 - p]? = some v.2 := fun v hv => ⟨by omega, by
      rw [show v.1 - p = (v.1 - (p + 1)) + 1 by omega, List.getElem?_cons_succ]
      exact hv.2⟩
    split
    · split
      · obtain ⟨V, h1, h2, h3⟩ := @ih (p + 1) W
        exact ⟨V, h1, fun v hv => up v (h2 v hv), h3.cons _⟩
      · obtain ⟨V, h1, h2, h3⟩ := @ih (p + 1) (W ++ [(p, c)])
        refine ⟨(p, c) :: V, by rw [h1, List.append_assoc]; rfl, fun v hv => ?_, ?_⟩
        · rcases List.mem_cons.mp hv with rfl | hv
          · exact ⟨Nat.le_refl _, by simp⟩
          · exact up v (h2 v hv)
        · exact h3.cons₂ c
    · exact ⟨[], by simp, by simp, by simp⟩
theorem zRk_nd (e : Nat → Int32) (P : Nat → Bool) (n : Nat) : (zRk e P n).Nodup := (zRk_str e P n).imp (fun h z => by subst z; exact zBf_irr h)
def zwc (S T : zV) (na n : Nat) (u : Int32) (t nc k j : Nat) : Nat := ((zW S T na n u t nc k).getD j (0, 0)).2
def zwp (S T : zV) (na n : Nat) (u : Int32) (t nc k j : Nat) : Int32 := zPr (zEf S) T (zL S T n u t nc) (S (51 + t)) j ((zW S T na n u t nc k).getD j (0, 0)).1
def zSvc (S T : zV) (na n : Nat) (u : Int32) (t nc k : Nat) : zV := zSj u n (zwc S T na n u t nc k) (zwp S T na n u t nc k) S (zW S T na n u t nc k).length
section Sv2
variable {N ρ δ nc nt nf na n nv ne la nb bo no cap L t k : Nat} {xs : zV} {S T : zV} {h g : xm_H} {u x y z : Int32}
theorem zwc_get {j : Nat} (hj : j < (zW S T na n u t nc k).length) : (zW S T na n u t nc k)[j]? = some ((zW S T na n u t nc k).getD j (0, 0)) := by
  rw [List.getD_eq_getElem?_getD, List.getElem?_eq_getElem hj]
  rfl
theorem zW_len : (zW S T na n u t nc k).length ≤ k := zFl_len (by simp)
theorem zW_ok (hWT : zWT nc nt nf na T) (hWS : zWS nc nt n nv S) (ht : t < nt) (hk : k ≤ nf) {j : Nat} (hj : j < (zW S T na n u t nc k).length) : zwc S T na n u t nc k j < nc ∧ ∃ q sp bu, zwp S T na n u t nc k j = nI q ∧ q ≤ 999 ∧ S (3 + 6 * zwc S T na n u t nc k j + 2) = nI sp ∧ S (3 + 6 * zwc S T na n u t nc k j + 1) = nI bu ∧ sp + q ≤ bu ∧ bu ≤ 9999 := by
  obtain ⟨V, h1, h2, h3⟩ := @zFl_ix (zAp T na) k (zL S T n u t nc) 0 []
  have hg := zwc_get hj
  have hl4 := @zW_len nc na n t k S T u
  have hg2 := List.mem_of_getElem? hg
  have hj4 : j < nf := by omega
  unfold zwc zwp
  generalize (zW S T na n u t nc k).getD j (0, 0) = w at *
  have hwV : w ∈ V := by
    have hz : zW S T na n u t nc k = V := by unfold zW; rw [h1]; rfl
    rw [← hz]
    exact hg2
  obtain ⟨_, h5⟩ := h2 w hwV
  rw [Nat.sub_zero] at h5
  have hm : w.2 ∈ zL S T n u t nc := List.mem_of_getElem? h5
  have hm2 := zRk_mem.mp hm
  have hco : zRf S T (nI (zRc S T w.2 u n)) w.2 (nI t) (zEf S w.2) (S (51 + t)) = 0 := of_decide_eq_true hm2.2
  obtain ⟨_, hLf, hfl⟩ := zRf_iff.mp hco
  have hq : ∀ x ∈ zL S T n u t nc, ∃ q, q ≤ 999 ∧ 1 ≤ q ∧ zEf S x = nI q := fun x hx => zef_b hWS.2.2.2.2.2.1 (zRk_mem.mp hx).1
  obtain ⟨f, f1, f2, f3⟩ := hWS.2.2.2.2.2.2.1 t ht
  have hT := hWT.2.2.2.2.2.2.2.2.2.2.2.1
  obtain ⟨p1, p2⟩ := zEt_ok (p := w.1) hq hT (show f ≤ 1000 by omega) hj4
  obtain ⟨E1, E2, E3⟩ := zq_ok hq hm
  obtain ⟨t1, t2, t3⟩ := zfc_ok hT hj4
  obtain ⟨sp, bu, s1, s2, s3, s4⟩ := (hWS.2.2.2.2.2.1 w.2 hm2.1).2.2.1
  have hLE : zq S w.2 ≤ bu - sp := by
    rcases Nat.lt_or_ge (bu - sp) (zq S w.2) with hh | hh
    · exfalso
      refine hLf ?_
      unfold zLf
      rw [s1, s2, E1, pk_sub s3]
      exact nI_lt hh (by omega)
    · exact hh
  have hfE : f ≤ zq S w.2 := by
    rcases Nat.lt_or_ge (zq S w.2) f with hh | hh
    · exfalso
      refine hfl ?_
      rw [E1, f3]
      exact nI_lt hh (by omega)
    · exact hh
  have hsd : zSd (zEf S) (zL S T n u t nc) := zRk_sd _ _ _
  generalize zL S T n u t nc = l at *
  have hv : (if w.1 + 1 < l.length then zq S (l.getD (w.1 + 1) 0) else 0) ≤ zq S w.2 := by
    by_cases h6 : w.1 + 1 < l.length
    · rw [if_pos h6]
      have hlt : w.1 < l.length := by omega
      have h7 := List.pairwise_iff_getElem.mp hsd w.1 (w.1 + 1) hlt h6 (by omega)
      have h8 : l[w.1] = w.2 := by
        rw [List.getElem?_eq_getElem hlt] at h5
        exact Option.some.inj h5
      have h9 : l.getD (w.1 + 1) 0 = l[w.1 + 1] := by rw [List.getD_eq_getElem?_getD, List.getElem?_eq_getElem h6]; rfl
      obtain ⟨F1, F2, F3⟩ := zq_ok hq (List.getElem_mem h6)
      rw [h8, E1, F1] at h7
      rw [h9]
      rcases Nat.lt_or_ge (zq S w.2) (zq S l[w.1 + 1]) with hh | hh
      · exact absurd (nI_lt hh (by omega)) h7
      · exact hh
    · rw [if_neg h6]
      omega
  have hb : zEt S T l f j w.1 ≤ zq S w.2 := by
    unfold zEt
    generalize (if w.1 + 1 < l.length then zq S (l.getD (w.1 + 1) 0) else 0) = v at *
    have hm0 : max f v ≤ zq S w.2 := by omega
    have hmul : max f v * zfc T j ≤ zq S w.2 * 100 := Nat.mul_le_mul hm0 t3
    omega
  refine ⟨hm2.1, zEt S T l f j w.1, sp, bu, by rw [f3]; exact p1, by omega, s1, s2, by omega, s4⟩
theorem zW_df {i j : Nat} (hi : i < j) (hj : j < (zW S T na n u t nc k).length) : zwc S T na n u t nc k i ≠ zwc S T na n u t nc k j := by
  obtain ⟨V, h1, h2, h3⟩ := @zFl_ix (zAp T na) k (zL S T n u t nc) 0 []
  have hnd : (V.map fun w => w.2).Nodup := h3.nodup (zRk_nd _ _ _)
  have hz : zW S T na n u t nc k = V := by unfold zW; rw [h1]; rfl
  unfold zwc
  rw [hz] at hj ⊢
  have a1 : (V.map fun w => w.2)[i]? = some (V.getD i (0, 0)).2 := by rw [List.getElem?_map, List.getD_eq_getElem?_getD, List.getElem?_eq_getElem (show i < V.length by omega)]; rfl
  have a2 : (V.map fun w => w.2)[j]? = some (V.getD j (0, 0)).2 := by rw [List.getElem?_map, List.getD_eq_getElem?_getD, List.getElem?_eq_getElem hj]; rfl
  intro hh
  have hi2 : i < (V.map fun w => w.2).length := by rw [List.length_map]; omega
  have hj2 : j < (V.map fun w => w.2).length := by rw [List.length_map]; omega
  have := List.pairwise_iff_getElem.mp hnd i j hi2 hj2 hi
  rw [List.getElem?_eq_getElem hi2] at a1
  rw [List.getElem?_eq_getElem hj2] at a2
  exact this ((Option.some.inj a1).trans (hh.trans (Option.some.inj a2).symm))
theorem zSvc_ws (hWT : zWT nc nt nf na T) (hWS : zWS nc nt n nv S) (ht : t < nt) (hk : k ≤ nf) (hn : n + k ≤ 400) (hu : zB 0 15 u) : zWS nc nt (n + (zW S T na n u t nc k).length) nv (zSvc S T na n u t nc k) := by
  have hl := @zW_len nc na n t k S T u
  have := hWT.2.2.2.1
  exact zSj_ws hWS hWT.1 hWT.2.1 hu _ (by omega) (by omega) (fun j hj => zW_ok hWT hWS ht hk hj) (fun i j hi hj => zW_df hi hj)
theorem zSvc_ot {i : Nat} (h1 : i ≠ 1) (h2 : ∀ c, c < nc → i ≠ 3 + 6 * c + 2) (hWT : zWT nc nt nf na T) (hWS : zWS nc nt n nv S) (ht : t < nt) (hk : k ≤ nf) (h3 : i < 57 + 5 * n ∨ 57 + 5 * (n + k) ≤ i) : zSvc S T na n u t nc k i = S i := by
  have hl := @zW_len nc na n t k S T u
  exact zSj_ot h1 _ (fun j hj => h2 _ (zW_ok hWT hWS ht hk hj).1) (by omega)
theorem zSvc_1 (h1 : S 1 = nI n) : zSvc S T na n u t nc k 1 = nI (n + (zW S T na n u t nc k).length) := zSj_1 h1 _
theorem zc_serve (hN : 1000 ≤ N) (hR : zRA ρ nc nt nf na n S T h) (hWT : zWT nc nt nf na T) (hWS : zWS nc nt n nv S) (ht : t < nt) (hk : k ≤ nf) (hn : n + k ≤ 400) : ∃ g, f_X2_serve N ρ u (nI t) (nI k) h = some (nI (zW S T na n u t nc k).length, g) ∧ zF (fun a k => zsC a k ∨ zAs n a k) h g ∧ zRA ρ nc nt nf na (n + (zW S T na n u t nc k).length) (zSvc S T na n u t nc k) T g := by
  have hl := @zW_len nc na n t k S T u
  have hnt := hWT.2.1
  have hnf := hWT.2.2.2.1
  obtain ⟨h1, h2, r1, f1, r2, f2, r3, f3⟩ := zc_auction (N := N) (u := u) (k := k) hN hR hWT hWS ht hk
  obtain ⟨g, s1, s2, s3⟩ := zc_serve32 (N := N) (ρ := ρ) (u := u) (m := (zW S T na n u t nc k).length) (cs := zwc S T na n u t nc k) (ps := zwp S T na n u t nc k) hN (by omega) (by omega) hWT.1 hWT.2.1 (hR.fr f2 hWT.1) hWS.2.2.2.1 f3.1 (fun j hj => ⟨(zW_ok hWT hWS ht hk hj).1, f3.2.1 j _ (by rw [List.getElem?_map, zwc_get hj]; rfl), f3.2.2 j _ (zwc_get hj)⟩)
  refine ⟨g, ?_, (f2.mono (fun a k z => Or.inl z)).tr (s2.mono (fun a k z => Or.inr z)), s3⟩
  unfold f_X2_serve
  rw [if_pos (zb_in (by omega) (by decide)), nI_clamp (by omega), r1, xb_some, f1, xb_some]
  exact s1
theorem zs_serve (hN : 1000 ≤ N) (hWT : zWT nc nt nf na (xm_i h 308)) (hWS : zWS nc nt n nv (xm_i h 303)) (ht : t < nt) (hk : k ≤ nf) (hn : n + k ≤ 400) : ∃ h1 g, f_X11_auction N u (nI t) (nI k) h = some ((), h1) ∧ f_X11_takeOver N u h1 = some (zsm (zwp (xm_i h 303) (xm_i h 308) na n u t nc k) (zW (xm_i h 303) (xm_i h 308) na n u t nc k).length, g) ∧ zF (fun a k => zsM a k ∨ (a = 303 ∧ k < 2217)) h g ∧ xm_i g 303 = zSvc (xm_i h 303) (xm_i h 308) na n u t nc k ∧ xm_i g 302 28 = nI (zW (xm_i h 303) (xm_i h 308) na n u t nc k).length := by
  have hl := @zW_len nc na n t k (xm_i h 303) (xm_i h 308) u
  have hnc := hWT.1
  have hnt := hWT.2.1
  have hnf := hWT.2.2.2.1
  have hd : ¬ xm_i h 308 0 = 0 := by
    obtain ⟨d, d1, d2, d3⟩ := hWT.2.2.2.2.2.2.2.2.2.1
    rw [d3]
    exact nI_ne0 (by omega) (by omega)
  obtain ⟨h1, a1, a2, a3, a4, a5⟩ := zs_auction (N := N) (n := n) (na := na) (nc := nc) (t := t) (k := k) (u := u) (h := h) hN (by omega) (by omega) hWT.2.2.2.2.1 hnc (by omega) hWT.2.2.2.2.2.2.2.2.1 hWT.2.2.2.2.2.1 hWS.2.2.2.1 hd
  have eS : xm_i h1 303 = xm_i h 303 := a2.row (fun k z => by unfold zsM at z; omega)
  obtain ⟨g, s1, s2, s3⟩ := zs_takeOver (N := N) (n := n) (u := u) (h := h1) (m := (zW (xm_i h 303) (xm_i h 308) na n u t nc k).length) (cs := zwc (xm_i h 303) (xm_i h 308) na n u t nc k) (ps := zwp (xm_i h 303) (xm_i h 308) na n u t nc k) hN (by omega) (by omega) (by rw [eS]; exact hWS.2.2.2.1) a5.1 (fun j hj => ⟨by have := (zW_ok hWT hWS ht hk hj).1; omega, a5.2.1 j _ (by rw [List.getElem?_map, zwc_get hj]; rfl), a5.2.2 j _ (zwc_get hj)⟩)
  refine ⟨h1, g, a1, s1, (a2.mono (fun a k z => Or.inl z)).tr (s2.mono (fun a k z => Or.inr z)), ?_, by rw [s2.i (by omega)]; exact a5.1⟩
  rw [s3, eS]
  rfl
end Sv2
