/-! write: constants as texts; the class's builder -/
def zKw (q : Nat) : List Nat := (xstb.getD q []).map Int32.toNatClampNeg
set_option maxRecDepth 100000 in
theorem zKw_b : ∀ r ∈ xstb, r.length ≤ 100 ∧ ∀ y ∈ r, nI y.toNatClampNeg = y ∧ y.toNatClampNeg < 128 := by decide +kernel
section Sb
variable {N L a b c q bo cap : Nat} {xs : zV} {h g : xm_H} {l w : List Nat}
theorem zKw_l (q : Nat) : (zKw q).length ≤ 100 ∧ ∀ x ∈ zKw q, x < 128 := by
  unfold zKw
  rw [List.length_map]
  by_cases hq : q < xstb.length
  · rw [List.getD_eq_getElem?_getD, List.getElem?_eq_getElem hq]
    have := zKw_b _ (List.getElem_mem hq)
    refine ⟨this.1, fun x hx => ?_⟩
    obtain ⟨y, y1, y2⟩ := List.mem_map.mp hx
    rw [← y2]
    exact (this.2 y y1).2
  · rw [List.getD_eq_getElem?_getD, List.getElem?_eq_none (by omega)]
    exact ⟨by simp, fun x hx => by simp at hx⟩
theorem zCst (hK : zKon L xs h) (hn : 318 ≤ xm_n h) (hq : q < 47) : zStr h (3 + 2 * q) (4 + 2 * q) (zKw q) := by
  obtain ⟨a1, a2⟩ := hK (3 + 2 * q) (by omega)
  obtain ⟨b1, b2⟩ := hK (4 + 2 * q) (by omega)
  refine ⟨by omega, by omega, ?_, ?_, ?_, ?_, fun i x hx => ?_⟩
  · rw [a1]
    unfold xhk
    rw [if_neg (by omega), if_neg (by omega), if_pos (by omega), if_pos (by omega)]
  · rw [(a2 0).2]
    unfold xhr
    rw [if_pos (by omega)]
    congr 1
    omega
  · rw [(a2 1).1]
    unfold xhi
    rw [if_neg (by omega), if_neg (by omega), if_neg (by omega), if_pos (by omega)]
  · rw [b1]
    unfold xhk zKw
    rw [if_neg (by omega), if_neg (by omega), if_pos (by omega), if_neg (by omega), List.length_map, show (4 + 2 * q - 4) / 2 = q by omega]
  · rw [(b2 i).1]
    unfold xhi
    rw [if_neg (by omega), if_neg (by omega), if_neg (by omega), if_neg (by omega), show (4 + 2 * q - 4) / 2 = q by omega]
    unfold zKw at hx
    rw [List.getElem?_map] at hx
    obtain ⟨y, y1, y2⟩ := Option.map_eq_some_iff.mp hx
    rw [List.getD_eq_getElem?_getD, y1]
    have hql : q < xstb.length := by
      rcases Nat.lt_or_ge q xstb.length with z | z
      · exact z
      · exfalso
        rw [List.getD_eq_getElem?_getD (l := xstb), List.getElem?_eq_none z] at y1
        simp at y1
    have hm : y ∈ xstb[q] := by
      rw [List.getD_eq_getElem?_getD (l := xstb), List.getElem?_eq_getElem hql] at y1
      exact List.mem_of_getElem? y1
    have := ((zKw_b _ (List.getElem_mem hql)).2 y hm).1
    rw [← y2, this]
    rfl
end Sb
