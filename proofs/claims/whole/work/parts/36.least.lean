/-! the least bid: the class's shorter way against the reference's search -/
section Least
variable {N ρ nc nt nf na n nv : Nat} {S T : zV} {h : xm_H}
theorem zLp_val {ap : Nat → Nat → Bool} {k c : Nat} {e : Nat → Int32} : ∀ {l W : List Nat}, (∀ x ∈ l, ∃ q, q ≤ 999 ∧ 1 ≤ q ∧ e x = nI q) → ∃ q, 1 ≤ q ∧ q ≤ 1000 ∧ zLp ap k c e l W = nI q := by
  intro l
  induction l with
  | nil => intro W _; exact ⟨1, by omega, by omega, rfl⟩
  | cons r l ih =>
    intro W hx
    have hx2 := fun x (h : x ∈ l) => hx x (List.mem_cons_of_mem _ h)
    unfold zLp
    split
    · exact ih hx2
    · split
      · obtain ⟨q, q1, q2, q3⟩ := hx r List.mem_cons_self
        split
        · exact ⟨q, q2, by omega, q3⟩
        · exact ⟨q + 1, by omega, by omega, by rw [q3, nI_1]⟩
      · exact ih hx2
theorem zc_leastPaced {k c : Nat} {l : List Nat} {e : Nat → Int32} {K : Int32 → xm_H → Option (Int32 × xm_H)} (hρ : xIsR ρ) (hRT : zRT ρ nc nf na T h) (hnc : nc ≤ 8) (hc : c < nc) (hk : k ≤ 4) (hln : l.length ≤ 8) (hl : ∀ x ∈ l, x < nc) (hct : xm_i h 182 6 = nI l.length) (hR : zRow (xm_i h 217) l) (hK : ∀ r ∈ l, K (nI r) h = some (if c < r then e r else e r + 1, h)) : ∀ (r : List Nat) (p n : Nat) (W : List Nat) (m : Nat), l.drop p = r → p + r.length = l.length → r.length < n → W.length ≤ 8 → (∀ w ∈ W, w < 8) → W.length + r.length ≤ 8 → m < 256 → (∀ w, w < 8 → (m.testBit w = true ↔ w ∈ W)) → f_X2_leastPacedBid_8 N ρ (nI c) (nI k) K n (nI m) (nI W.length) (nI p) h = some (zLp (zAp T na) k c e r W, h) := by
  intro r
  induction r with
  | nil =>
    intro p n W m hd hp hn hW1 hW8 hWr hm hmb
    match n, hn with
    | n + 1, hn =>
      have hpl : p = l.length := by simpa using hp
      show f_X2_leastPacedBid_8B N ρ (nI c) (nI k) K _ (nI m) (nI W.length) (nI p) h = _
      unfold f_X2_leastPacedBid_8B
      rw [hct, if_neg (nI_nlt (by omega) (by omega))]
      rfl
  | cons q r ih =>
    intro p n W m hd hp hn hW1 hW8 hWr hm hmb
    rw [List.length_cons] at hp hWr
    match n, hn with
    | n + 1, hn =>
      rw [List.length_cons] at hn
      have hpl : p < l.length := by omega
      have hx : l[p]? = some q := by
        have := congrArg (fun z => z[0]?) hd
        simpa using this
      have hqm := List.mem_of_getElem? hx
      have hqn : q < nc := hl q hqm
      have hd2 : l.drop (p + 1) = r := by
        rw [← List.drop_drop, hd]
        rfl
      have hrp : xm_i h 217 p = nI q := hR p q hx
      obtain ⟨t1, t2, t3, mm, mm1, mm2, mm3⟩ := hRT.2.2.2.2.2.2 q hqn
      show f_X2_leastPacedBid_8B N ρ (nI c) (nI k) K (f_X2_leastPacedBid_8 N ρ (nI c) (nI k) K n) (nI m) (nI W.length) (nI p) h = _
      have ih' := ih (p + 1) n
      generalize f_X2_leastPacedBid_8 N ρ (nI c) (nI k) K n = rec at *
      unfold f_X2_leastPacedBid_8B zLp
      rw [hct, if_pos (nI_lt hpl (by omega)), if_pos (zb_in (by omega) (by decide))]
      simp only [nI_clamp (show p < 2 ^ 31 by omega), hrp, if_pos (zb_in (show q < 8 by omega) (by decide)), nI_clamp (show q < 2 ^ 31 by omega), mm2, nI_1]
      by_cases hqc : q = c
      · rw [if_pos (by rw [hqc]), if_pos (Or.inl hqc)]
        exact ih' W m hd2 (by omega) (by omega) hW1 hW8 (by omega) hm hmb
      rw [if_neg (fun z => hqc ((nI_eq (by omega) (by omega)).mp z))]
      have hsame : (nI mm &&& nI m = 0) ↔ ¬ (W.any fun w => zAp T na q w) = true := by
        rw [zand0 mm1 hm, List.any_eq_true]
        constructor
        · rintro hh ⟨w, hw, hw2⟩
          have w8 := hW8 w hw
          refine hh w w8 ⟨?_, (hmb w w8).mpr hw⟩
          rw [mm3 w w8]
          exact hw2
        · rintro hh w hw ⟨hh1, hh2⟩
          refine hh ⟨w, (hmb w hw).mp hh2, ?_⟩
          rw [← mm3 w hw]
          exact hh1
      by_cases hb : (W.any fun w => zAp T na q w) = true
      · rw [if_neg (fun z => hsame.mp z hb), if_pos (Or.inr hb)]
        exact ih' W m hd2 (by omega) (by omega) hW1 hW8 (by omega) hm hmb
      rw [if_pos (hsame.mpr hb), if_neg (not_or.mpr ⟨hqc, hb⟩)]
      by_cases hk1 : W.length + 1 = k
      · rw [if_pos (show nI (W.length + 1) = nI k by rw [hk1]), if_pos (Or.inl hk1)]
        exact hK q hqm
      rw [if_neg (fun z => hk1 ((nI_eq (by omega) (by omega)).mp z)), zb_1sh c (by omega)]
      have h2c : (2 : Nat) ^ c < 2 ^ 8 := Nat.pow_lt_pow_right (by omega) (by omega)
      have hapc : (nI mm &&& nI (2 ^ c) = 0) ↔ ¬ zAp T na q c = true := by
        rw [zand0 mm1 h2c]
        constructor
        · intro hh h3
          refine hh c (by omega) ⟨?_, ?_⟩
          · rw [mm3 c (by omega)]
            exact h3
          · rw [Nat.testBit_two_pow]
            simp
        · rintro hh w hw ⟨h3, h4⟩
          rw [Nat.testBit_two_pow, decide_eq_true_iff] at h4
          subst h4
          rw [mm3 c (by omega)] at h3
          exact hh h3
      by_cases ha : zAp T na q c = true
      · rw [if_neg (fun z => hapc.mp z ha), if_pos (Or.inr ha)]
        exact hK q hqm
      rw [if_pos (hapc.mpr ha), if_neg (not_or.mpr ⟨hk1, ha⟩), zb_1sh q (by omega), zb_or]
      have h2q : (2 : Nat) ^ q < 2 ^ 8 := Nat.pow_lt_pow_right (by omega) (by omega)
      have := ih' (W ++ [q]) (m ||| 2 ^ q) hd2 (by omega) (by omega) (by rw [List.length_append]; simp; omega) (by
        intro w hw
        rcases List.mem_append.mp hw with hw | hw
        · exact hW8 w hw
        · have : w = q := by simpa using hw
          omega) (by rw [List.length_append]; simp; omega) (Nat.or_lt_two_pow (n := 8) hm h2q) (by
        intro w hw
        rw [Nat.testBit_or, Bool.or_eq_true, hmb w hw, Nat.testBit_two_pow, decide_eq_true_iff, List.mem_append, List.mem_singleton]
        constructor
        · rintro (h1 | h1)
          · exact Or.inl h1
          · exact Or.inr h1.symm
        · rintro (h1 | h1)
          · exact Or.inl h1
          · exact Or.inr h1.symm)
      rw [List.length_append] at this
      exact this
/-- what makes a refusal -/
theorem zRf_iff {rc : Int32} {c : Nat} {tag e fl : Int32} : zRf S T rc c tag e fl = 0 ↔ ((¬ S (3 + 6 * c + 5) = 1 ∧ ¬ (¬ T (47 + c) = -1 ∧ ¬ T (47 + c) = tag) ∧ rc < T (31 + c) ∧ ¬ (S (3 + 6 * c + 4) = 2 ∧ ¬ S (3 + 6 * c + 2) < zPl S T c)) ∧ ¬ zLf S c < e ∧ ¬ e < fl) := by
  unfold zRf
  by_cases h1 : S (3 + 6 * c + 5) = 1
  · rw [if_pos h1]
    exact ⟨fun z => absurd z (by decide), fun z => absurd h1 z.1.1⟩
  rw [if_neg h1]
  by_cases h2 : ¬ T (47 + c) = -1 ∧ ¬ T (47 + c) = tag
  · rw [if_pos h2]
    exact ⟨fun z => absurd z (by decide), fun z => absurd h2 z.1.2.1⟩
  rw [if_neg h2]
  by_cases h3 : zLf S c < e
  · rw [if_pos h3]
    exact ⟨fun z => absurd z (by decide), fun z => absurd h3 z.2.1⟩
  rw [if_neg h3]
  by_cases h4 : rc < T (31 + c)
  · rw [if_neg (not_not_intro h4)]
    by_cases h5 : S (3 + 6 * c + 4) = 2 ∧ ¬ S (3 + 6 * c + 2) < zPl S T c
    · rw [if_pos h5]
      exact ⟨fun z => absurd z (by decide), fun z => absurd h5 z.1.2.2.2⟩
    rw [if_neg h5]
    by_cases h6 : e < fl
    · rw [if_pos h6]
      exact ⟨fun z => absurd z (by decide), fun z => absurd h6 z.2.2⟩
    · rw [if_neg h6]
      exact ⟨fun _ => ⟨⟨h1, h2, h4, h5⟩, h3, h6⟩, fun _ => rfl⟩
  · rw [if_pos h4]
    exact ⟨fun z => absurd z (by decide), fun z => absurd z.1.2.2.1 h4⟩
theorem zAp_sym (T : zV) (na x y : Nat) : zAp T na x y = zAp T na y x := by
  unfold zAp
  congr 1
  funext k
  cases zbit (T (64 + k)) x <;> cases zbit (T (64 + k)) y <;> by_cases h : x = y <;> simp [h, eq_comm]
/-- the state with another bid of c -/
theorem zb_ix {c x w : Nat} (hw : 1 ≤ w) (hw2 : w < 6) (b : Int32) : zU S (3 + 6 * c) b (3 + 6 * x + w) = S (3 + 6 * x + w) := zU_ne (by omega)
theorem zb_ef {c x : Nat} (b : Int32) (hx : x ≠ c) : zEf (zU S (3 + 6 * c) b) x = zEf S x := by
  unfold zEf
  rw [zU_ne (by omega), zU_ne (by omega)]
theorem zb_efc {c b m : Nat} (hb : b ≤ 20000) (hm : m ≤ 100) (e : S (3 + 6 * c + 3) = nI m) : zEf (zU S (3 + 6 * c) (nI b)) c = nI ((b * m + 99) / 100) := by
  have h1 : b * m ≤ 20000 * 100 := Nat.mul_le_mul hb hm
  unfold zEf
  rw [zU_eq, zU_ne (by omega), e, pk_mul, show (99 : Int32) = nI 99 from rfl, nI_add, show (100 : Int32) = nI 100 from rfl, pk_div (by omega) (by omega) (by omega)]
theorem zb_rc {c x : Nat} {u b : Int32} (hc : c < 8) : zRc (zU S (3 + 6 * c) b) T x u n = zRc S T x u n := by
  unfold zRc
  refine zct_congr (fun i _ => ?_)
  unfold zRp
  rw [zU_ne (by omega), zU_ne (by omega), zU_ne (by omega), zU_ne (by omega)]
theorem zb_rf {c x : Nat} {rc tag e fl b : Int32} (hc : c < 8) : zRf (zU S (3 + 6 * c) b) T rc x tag e fl = zRf S T rc x tag e fl := by
  unfold zRf zLf zPl
  rw [zb_ix (by omega) (by omega), zb_ix (by omega) (by omega), zb_ix (by omega) (by omega), zb_ix (by omega) (by omega), zU_ne (show 0 ≠ 3 + 6 * c by omega)]
theorem zb_con {c x t : Nat} {u b : Int32} (hc : c < 8) : zCon (zU S (3 + 6 * c) b) T n u t x = decide (zRf S T (nI (zRc S T x u n)) x (nI t) (zEf (zU S (3 + 6 * c) b) x) (S (51 + t)) = 0) := by
  unfold zCon zCn
  rw [zb_rc hc, zb_rf hc, zU_ne (by omega)]
/-- c wins with bid b -/
def zWn (S T : zV) (na n : Nat) (u : Int32) (t nc k c b : Nat) : Bool := (zW (zU S (3 + 6 * c) (nI b)) T na n u t nc k).any fun w => decide (w.2 = c)
theorem zWn_iff {u : Int32} {t k c b m : Nat} (hnc : nc ≤ 8) (hc : c < nc) (hk : 1 ≤ k) (hb1 : 1 ≤ b) (hb : b ≤ 999) (hm1 : 1 ≤ m) (hm : m ≤ 100) (em : S (3 + 6 * c + 3) = nI m) (hef : ∀ x, x < nc → ∃ q, q ≤ 999 ∧ 1 ≤ q ∧ zEf S x = nI q) : zWn S T na n u t nc k c b = true ↔ (zRf S T (nI (zRc S T c u n)) c (nI t) (nI ((b * m + 99) / 100)) (S (51 + t)) = 0 ∧ ¬ nI ((b * m + 99) / 100) < zLp (zAp T na) k c (zEf S) (zL S T n u t nc) []) := by
  have hE0 : b * m ≤ 999 * 100 := Nat.mul_le_mul hb hm
  have hE1 : 1 * 1 ≤ b * m := Nat.mul_le_mul hb1 hm1
  have hEc := zb_efc (S := S) (c := c) (b := b) (m := m) (by omega) hm em
  generalize hEE : (b * m + 99) / 100 = E at *
  have hE2 : 1 ≤ E := by omega
  have hE3 : E ≤ 20000 := by omega
  unfold zWn zW
  generalize hS' : zU S (3 + 6 * c) (nI b) = S' at *
  have hcon : ∀ x, zCon S' T n u t x = decide (zRf S T (nI (zRc S T x u n)) x (nI t) (zEf S' x) (S (51 + t)) = 0) := fun x => by rw [← hS']; exact zb_con (by omega)
  have hefx : ∀ x, x ≠ c → zEf S' x = zEf S x := fun x hx => by rw [← hS']; exact zb_ef _ hx
  by_cases hcc : zRf S T (nI (zRc S T c u n)) c (nI t) (nI E) (S (51 + t)) = 0
  · have hcT : zCon S' T n u t c = true := by rw [hcon, hEc]; exact decide_eq_true hcc
    have hstr : (zL S T n u t nc).Pairwise (zBf (zEf S)) := zRk_str _ _ _
    have h0str : ((zL S T n u t nc).filter fun x => decide (x ≠ c)).Pairwise (zBf (zEf S)) := List.Pairwise.filter _ hstr
    have h0mem : ∀ x, x ∈ ((zL S T n u t nc).filter fun x => decide (x ≠ c)) ↔ x ≠ c ∧ x < nc ∧ zCon S T n u t x = true := fun x => by
      rw [List.mem_filter, decide_eq_true_iff]
      unfold zL
      rw [zRk_mem]
      constructor
      · rintro ⟨⟨a1, a2⟩, a3⟩
        exact ⟨a3, a1, a2⟩
      · rintro ⟨a3, a1, a2⟩
        exact ⟨⟨a1, a2⟩, a3⟩
    have hcs : ∀ x, x ≠ c → zCon S' T n u t x = zCon S T n u t x := fun x hx => by
      rw [hcon, hefx x hx]
      rfl
    generalize hL0 : ((zL S T n u t nc).filter fun x => decide (x ≠ c)) = L0 at *
    have hc0 : c ∉ L0 := fun z => ((h0mem c).mp z).1 rfl
    have hq0 : ∀ x ∈ L0, ∃ q, q ≤ 999 ∧ zEf S x = nI q := fun x hx => by
      obtain ⟨q, q1, _, q3⟩ := hef x ((h0mem x).mp hx).2.1
      exact ⟨q, q1, q3⟩
    have hsplit : zL S' T n u t nc = (L0.filter fun x => decide (nI E < zEf S x ∨ (zEf S x = nI E ∧ x < c))) ++ c :: (L0.filter fun x => !decide (nI E < zEf S x ∨ (zEf S x = nI E ∧ x < c))) := by
      refine zuniq (r := zBf (zEf S')) (fun x y => zBf_as) (zRk_str _ _ _) ?_ ?_
      · have hp : ∀ l : List Nat, l.Pairwise (zBf (zEf S)) → c ∉ l → l.Pairwise (zBf (zEf S')) := by
          intro l hl hcl
          refine List.Pairwise.imp_of_mem ?_ hl
          intro x y hx hy hxy
          unfold zBf at *
          rw [hefx x (fun z => hcl (z ▸ hx)), hefx y (fun z => hcl (z ▸ hy))]
          exact hxy
        rw [List.pairwise_append, List.pairwise_cons]
        refine ⟨hp _ (List.Pairwise.filter _ h0str) (fun z => hc0 (List.mem_filter.mp z).1), ⟨?_, hp _ (List.Pairwise.filter _ h0str) (fun z => hc0 (List.mem_filter.mp z).1)⟩, ?_⟩
        · intro y hy
          have hy1 := List.mem_filter.mp hy
          have hyc : y ≠ c := fun z => hc0 (z ▸ hy1.1)
          have hy2 : ¬ (nI E < zEf S y ∨ (zEf S y = nI E ∧ y < c)) := by have h9 := hy1.2; rw [Bool.not_eq_true'] at h9; exact of_decide_eq_false h9
          unfold zBf
          rw [hefx y hyc, hEc]
          rw [Int32.lt_iff_toInt_lt, ← Int32.toInt_inj] at *
          omega
        · intro x hx y hy
          have hx1 := List.mem_filter.mp hx
          have hxc : x ≠ c := fun z => hc0 (z ▸ hx1.1)
          have hx2 : (nI E < zEf S x ∨ (zEf S x = nI E ∧ x < c)) := by simpa using hx1.2
          have hxc' : zBf (zEf S') x c := by
            unfold zBf
            rw [hefx x hxc, hEc]
            exact hx2
          rcases List.mem_cons.mp hy with rfl | hy
          · exact hxc'
          · have hy1 := List.mem_filter.mp hy
            have hyc : y ≠ c := fun z => hc0 (z ▸ hy1.1)
            have hy2 : ¬ (nI E < zEf S y ∨ (zEf S y = nI E ∧ y < c)) := by have h9 := hy1.2; rw [Bool.not_eq_true'] at h9; exact of_decide_eq_false h9
            have hcy : zBf (zEf S') c y := by
              unfold zBf
              rw [hefx y hyc, hEc]
              rw [Int32.lt_iff_toInt_lt, ← Int32.toInt_inj] at *
              omega
            exact zBf_tr hxc' hcy
      · intro x
        unfold zL
        rw [zRk_mem, List.mem_append, List.mem_cons, List.mem_filter, List.mem_filter]
        by_cases hxc : x = c
        · subst hxc
          exact ⟨fun _ => Or.inr (Or.inl rfl), fun _ => ⟨hc, hcT⟩⟩
        · rw [hcs x hxc, h0mem x]
          by_cases hd : nI E < zEf S x ∨ (zEf S x = nI E ∧ x < c)
          · simp [hd, hxc]
          · simp [hd, hxc]
    rw [hsplit, zFl_win (fun z => hc0 (List.mem_filter.mp z).1) (fun z => hc0 (List.mem_filter.mp z).1)]
    have hmap := @zFl_n (zAp T na) k (L0.filter fun x => decide (nI E < zEf S x ∨ (zEf S x = nI E ∧ x < c))) 0 []
    have hlen : (zFl (zAp T na) k (L0.filter fun x => decide (nI E < zEf S x ∨ (zEf S x = nI E ∧ x < c))) 0 []).length = (zFn (zAp T na) k (L0.filter fun x => decide (nI E < zEf S x ∨ (zEf S x = nI E ∧ x < c))) []).length := by
      have := congrArg List.length hmap
      rw [List.length_map] at this
      exact this
    have hany : ((zFl (zAp T na) k (L0.filter fun x => decide (nI E < zEf S x ∨ (zEf S x = nI E ∧ x < c))) 0 []).any fun w => zAp T na c w.2) = ((zFn (zAp T na) k (L0.filter fun x => decide (nI E < zEf S x ∨ (zEf S x = nI E ∧ x < c))) []).any fun w => zAp T na c w) := by
      have : ((zFn (zAp T na) k (L0.filter fun x => decide (nI E < zEf S x ∨ (zEf S x = nI E ∧ x < c))) []).any fun w => zAp T na c w) = (((zFl (zAp T na) k (L0.filter fun x => decide (nI E < zEf S x ∨ (zEf S x = nI E ∧ x < c))) 0 []).map fun w => w.2).any fun w => zAp T na c w) := by rw [hmap]; rfl
      rw [this, List.any_map]
      rfl
    rw [hlen, hany, zLp_win (fun x y => zAp_sym T na x y) hE2 hE3 h0str hc0 hq0 (show ([] : List Nat).length < k from hk) rfl, zLp_skip (l := zL S T n u t nc), hL0]
    exact ⟨fun z => ⟨hcc, z⟩, fun z => z.2⟩
  · have hcF : ¬ zCon S' T n u t c = true := by rw [hcon, hEc]; simpa using hcc
    constructor
    · intro hh
      exfalso
      obtain ⟨w, hw, hw2⟩ := List.any_eq_true.mp hh
      have hw3 : w.2 = c := of_decide_eq_true hw2
      obtain ⟨V, hV1, hV2⟩ := @zFl_pre (zAp T na) k (zL S' T n u t nc) 0 []
      rw [hV1, List.nil_append] at hw
      have := hV2 w hw
      rw [hw3] at this
      exact hcF (zRk_mem.mp this).2
    · rintro ⟨h1, _⟩
      exact absurd h1 hcc
/-- numbers of the shorter way -/
theorem zef_b (hWC : zWC nc S) {x : Nat} (hx : x < nc) : ∃ q, q ≤ 999 ∧ 1 ≤ q ∧ zEf S x = nI q := by
  obtain ⟨⟨b, b1, b2, b3⟩, _, _, ⟨m, m1, m2, m3⟩, _⟩ := hWC x hx
  have h1 : b * m ≤ 999 * 100 := Nat.mul_le_mul b2 m2
  have h2 : 1 * 10 ≤ b * m := Nat.mul_le_mul b1 m1
  refine ⟨(b * m + 99) / 100, by omega, by omega, ?_⟩
  unfold zEf
  rw [b3, m3, pk_mul, show (99 : Int32) = nI 99 from rfl, nI_add, show (100 : Int32) = nI 100 from rfl, pk_div (by omega) (by omega) (by omega)]
theorem zc_leastWin {k c t m fl : Nat} {u : Int32} (hN : 1000 ≤ N) (hR : zRA ρ nc nt nf na n S T h) (hWT : zWT nc nt nf na T) (hWS : zWS nc nt n nv S) (hc : c < nc) (ht : t < nt) (hk : k ≤ nf) (em : S (3 + 6 * c + 3) = nI m) (hm1 : 10 ≤ m) (hm2 : m ≤ 100) (ef : S (51 + t) = nI fl) (hfl : fl ≤ 999) : ∃ h' q, f_X2_leastWinningBid N ρ (nI c) u (nI t) (nI k) h = some (if zRf S T (nI (zRc S T c u n)) c (nI t) (nI ((((max fl q - 1) * 100 / m + 1) * m + 99) / 100)) (S (51 + t)) = 0 then (if 999 < (max fl q - 1) * 100 / m + 1 then -1 else nI ((max fl q - 1) * 100 / m + 1)) else -1, h') ∧ zF zsC h h' ∧ 1 ≤ q ∧ q ≤ 1000 ∧ zLp (zAp T na) k c (zEf S) (zL S T n u t nc) [] = nI q := by
  have hnc := hWT.1
  have hnf := hWT.2.2.2.1
  have hnt := hWT.2.1
  have e202 : xm_i h 202 t = S (51 + t) := hR.2.2.1.2.2.2.2.1 t ht
  obtain ⟨h1, r1, r2, r3⟩ := zc_rank (N := N) (t := t) (u := u) (fl := S (51 + t)) hN hR hWT hWS
  have hR1 := hR.fr r2 hnc
  have hlen := zRk_len (zEf S) (zCn S T n u t (S (51 + t))) nc
  have hlm : ∀ x ∈ zL S T n u t nc, x < nc := fun x hx => (zRk_mem.mp hx).1
  obtain ⟨q, q1, q2, q3⟩ := @zLp_val (zAp T na) k c (zEf S) (zL S T n u t nc) [] (fun x hx => zef_b hWS.2.2.2.2.2.1 (hlm x hx))
  have hlp : f_X2_leastPacedBid N ρ (nI c) (nI k) h1 = some (nI q, h1) := by
    unfold f_X2_leastPacedBid
    rw [← q3]
    refine zc_leastPaced (N := N) (l := zL S T n u t nc) (e := zEf S) hR.1 hR1.2.1 hnc hc (by omega) (by show (zRk _ _ _).length ≤ 8; exact Nat.le_trans hlen hnc) hlm r3.1 r3.2.1 ?_ (zL S T n u t nc) 0 N [] 0 rfl (by omega) (by show (zRk _ _ _).length < N; exact Nat.lt_of_le_of_lt hlen (by omega)) (by simp) (by intro w hw; simp at hw) (by show 0 + (zRk _ _ _).length ≤ 8; rw [Nat.zero_add]; exact Nat.le_trans hlen hnc) (by decide) (by intro w hw; simp)
    intro r hr
    have hr8 := hlm r hr
    have e6 := r3.2.2.1 r hr8
    by_cases hcr : c < r
    · rw [if_pos (nI_lt hcr (by omega)), if_pos (zb_in (by omega) (by decide)), nI_clamp (by omega), e6, if_pos hcr]
    · rw [if_neg (nI_nlt (by omega) (by omega)), if_pos (zb_in (by omega) (by decide)), nI_clamp (by omega), e6, if_neg hcr]
  refine ⟨h1, q, ?_, r2, q1, q2, q3⟩
  have e207 : xm_i h1 207 c = nI m := ((hR1.2.2.1.2.2.2.2.2 c hc).2.2.2.2.1).trans em
  have hmx : (if nI fl < nI q then nI q else nI fl) = nI (max fl q) := by
    by_cases hlt : fl < q
    · rw [if_pos (nI_lt hlt (by omega)), Nat.max_eq_right (by omega)]
    · rw [if_neg (nI_nlt (by omega) (by omega)), Nat.max_eq_left (by omega)]
  have hmx2 : max fl q ≤ 1000 := by omega
  have hmx1 : 1 ≤ max fl q := by omega
  have hdv : (max fl q - 1) * 100 / m ≤ 99900 := Nat.le_trans (Nat.div_le_self _ _) (by omega)
  have hdv2 : (max fl q - 1) * 100 / m ≤ 9990 := by
    rw [Nat.div_le_iff_le_mul_add_pred (by omega)]
    have : 10 * 9990 ≤ m * 9990 := Nat.mul_le_mul_right _ hm1
    omega
  have hbid : (nI (max fl q) - 1) * 100 / nI m + 1 = nI ((max fl q - 1) * 100 / m + 1) := by
    rw [show (1 : Int32) = nI 1 from rfl, pk_sub hmx1, show (100 : Int32) = nI 100 from rfl, pk_mul, pk_div (by omega) (by omega) (by omega), nI_add]
  have hpc : (nI ((max fl q - 1) * 100 / m + 1) * nI m + 99) / 100 = nI ((((max fl q - 1) * 100 / m + 1) * m + 99) / 100) := by
    have h9 : ((max fl q - 1) * 100 / m + 1) * m ≤ 9991 * 100 := Nat.mul_le_mul (by omega) hm2
    rw [pk_mul, show (99 : Int32) = nI 99 from rfl, nI_add, show (100 : Int32) = nI 100 from rfl, pk_div (by omega) (by omega) (by omega)]
  have hreas := fun e => zc_reason (c := c) (t := t) (e := e) (fl := S (51 + t)) (rc := nI (zRc S T c u n)) hR1 hnc hWT.2.2.2.2.2.2.2.2.2.1 (hWS.2.2.2.2.2.1 c hc).2.2.2.2.2 hc (r3.2.2.2 c hc)
  unfold f_X2_leastWinningBid
  rw [if_pos (zb_in (by omega) (by decide)), nI_clamp (n := t) (by omega), e202, r1, xb_some, if_pos (zb_in (by omega) (by decide)), nI_clamp (n := c) (by omega), e207, if_pos (show (0 : Int32) < nI m from nI_lt (a := 0) (by omega) (by omega)), hlp, xb_some, if_pos (nI_ne0 (by omega) (by omega))]
  unfold f_X2_perCent
  rw [xb_some, hreas, xb_some, ef, hmx, hbid, hpc]
  by_cases h0 : zRf S T (nI (zRc S T c u n)) c (nI t) (nI ((((max fl q - 1) * 100 / m + 1) * m + 99) / 100)) (nI fl) = 0
  · rw [if_pos h0, if_pos h0]
    by_cases h9 : 999 < (max fl q - 1) * 100 / m + 1
    · rw [if_pos (show (999 : Int32) < _ from nI_lt (a := 999) h9 (by omega)), if_pos h9]
    · rw [if_neg (show ¬ (999 : Int32) < _ from nI_nlt (b := (max fl q - 1) * 100 / m + 1) (a := 999) (by omega) (by omega)), if_neg h9]
  · rw [if_neg h0, if_neg h0]
end Least
