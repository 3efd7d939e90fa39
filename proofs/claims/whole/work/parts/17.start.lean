/-! printed by wip/gen/gen17.py: the constants, and the start of the law -/
abbrev xfl : List Cond := flatC (Jvm.Cond.and given_1 narrow_1)
abbrev xstb : List (List Int32) := [[], [], [111, 117, 116, 32, 111, 102, 32, 114, 97, 110, 103, 101], [100, 97, 121], [97, 116, 116, 114, 105, 98, 117, 116, 101], [115, 108, 111, 116, 115], [116, 97, 103], [97, 110, 121], [99, 97, 109, 112, 97, 105, 103, 110], [112, 97, 99, 101], [102, 97, 115, 116], [101, 118, 101, 110], [115, 116, 114, 105, 99, 116], [97, 112, 97, 114, 116], [110, 111, 32, 115, 117, 99, 104, 32, 116, 97, 103], [110, 111, 32, 115, 117, 99, 104, 32, 99, 97, 109, 112, 97, 105, 103, 110], [110, 101, 103, 97, 116, 105, 118, 101, 32, 112, 108, 97, 99, 101], [116, 111, 111, 32, 109, 97, 110, 121, 32, 105, 109, 112, 114, 101, 115, 115, 105, 111, 110, 115], [116, 111, 111, 32, 109, 97, 110, 121, 32, 116, 105, 99, 107, 115], [116, 111, 111, 32, 109, 97, 110, 121, 32, 99, 111, 110, 118, 101, 114, 115, 105, 111, 110, 115], [112, 97, 117, 115, 101, 100, 32, 97, 108, 114, 101, 97, 100, 121], [110, 111, 116, 32, 112, 97, 117, 115, 101, 100], [109, 111, 114, 101, 32, 105, 115, 32, 115, 112, 101, 110, 116, 32, 97, 108, 114, 101, 97, 100, 121], [110, 111, 32, 115, 117, 99, 104, 32, 105, 109, 112, 114, 101, 115, 115, 105, 111, 110], [102, 97, 115, 116], [101, 118, 101, 110], [115, 116, 114, 105, 99, 116], [58, 32], [32, 97, 116, 32], [32, 112, 97, 117, 115, 101, 100], [44, 32, 115, 101, 101, 110, 32, 98, 121, 32], [110, 111, 32, 115, 117, 99, 104, 32, 99, 104, 97, 114, 97, 99, 116, 101, 114], [100, 97, 121], [97, 116, 116, 114, 105, 98, 117, 116, 101], [115, 108, 111, 116, 115], [116, 97, 103], [97, 110, 121], [99, 97, 109, 112, 97, 105, 103, 110], [112, 97, 99, 101], [102, 97, 115, 116], [101, 118, 101, 110], [115, 116, 114, 105, 99, 116], [97, 112, 97, 114, 116], [58, 32], [32, 97, 116, 32], [32, 112, 97, 117, 115, 101, 100], [44, 32, 115, 101, 101, 110, 32, 98, 121, 32]]
def xsw (own : String) (idx : Nat) (bs : List Int32) : List Cond := [.exactly (.string own idx) "java/lang/String", .eq (.field (.string own idx) "java/lang/String" "coder" "B") (.int 0), .arrayOf (.field (.string own idx) "java/lang/String" "value" "[B") .byte, .eq (.length (.field (.string own idx) "java/lang/String" "value" "[B")) (.int (Int32.ofNat bs.length))] ++ (List.range bs.length).map (fun j => .eq (.elem (.field (.string own idx) "java/lang/String" "value" "[B") (.int (Int32.ofNat j))) (.int (bs.getD j 0)))
/-- what is known of a String constant -/
def xsfact (own : String) (idx : Nat) (tx : String) (bs : List Int32) (s : State) (a t : Nat) : Prop := vk_R own idx tx a s ∧ va_O "java/lang/String" a (fun a => s.heap.size ≤ a) s s.heap ∧ va_OF "java/lang/String" "coder" "B" (.int 0) a (fun a => s.heap.size ≤ a) s s.heap ∧ va_OF "java/lang/String" "value" "[B" (.ref t) a (fun a => s.heap.size ≤ a) s s.heap ∧ va_T .byte t bs.length (fun j => .int (bs.getD j 0)) (fun a => s.heap.size ≤ a) s s.heap
theorem xs_of {args : Array Value} {s : State} {own tx : String} {idx : Nat} {bs : List Int32} (hl : bs.length < 1000) (hw : ∀ w ∈ xsw own idx bs, w.before args s = true) (hr : (Cond.stringRef own idx tx).before args s = true) : ∃ q : Nat × Nat, xsfact own idx tx bs s q.1 q.2 := by
  have hA : ∀ a : Nat, a < s.heap.size → ¬ (fun a => s.heap.size ≤ a) a := fun a h => Nat.not_le.mpr h
  have h1 := hw (.exactly (.string own idx) "java/lang/String") (by simp [xsw])
  have h2 := hw (.eq (.field (.string own idx) "java/lang/String" "coder" "B") (.int 0)) (by simp [xsw])
  have h3 := hw (.arrayOf (.field (.string own idx) "java/lang/String" "value" "[B") .byte) (by simp [xsw])
  have h4 := hw (.eq (.length (.field (.string own idx) "java/lang/String" "value" "[B")) (.int (Int32.ofNat bs.length))) (by simp [xsw])
  have h5 : ∀ j, j < bs.length → (Cond.eq (.elem (.field (.string own idx) "java/lang/String" "value" "[B") (.int (Int32.ofNat j))) (.int (bs.getD j 0))).before args s = true := fun j hj => hw _ (List.mem_append_right _ (List.mem_map.mpr ⟨j, List.mem_range.mpr hj, rfl⟩))
  obtain ⟨a, c, cA, kA, q1, q2, q3, q4, q5, q6, -⟩ := Cond.exactly_spec (args := args) (first := s) (o := none) (s := s) (idx := []) (t := .string own idx) (cls := "java/lang/String") h1
  obtain ⟨t, ht, hT⟩ := va_Tof (f := fun j => .int (bs.getD j 0)) (A := fun a => s.heap.size ≤ a) (by omega) h3 (va_eqt h4) (fun j hj => va_eqt (h5 j hj)) hA
  exact ⟨(a, t), vk_R.of hr q1, ⟨cA, q3, q5, by rw [q6]; exact q2, hA a (Array.getElem?_eq_some_iff.mp q3).1⟩, vk_OFof q1 (va_eqt h2) hA, vk_OFof q1 ht hA, hT⟩
set_option maxRecDepth 100000 in
theorem xsg_0 : xsw "AdMarketplace$Tag" 7 [] = (xfl.drop 326).take 4 := by decide +kernel
set_option maxRecDepth 100000 in
theorem xsg_1 : xsw "AdMarketplace$Campaign" 7 [] = (xfl.drop 330).take 4 := by decide +kernel
set_option maxRecDepth 100000 in
theorem xsg_2 : xsw "AdMarketplace" 372 [111, 117, 116, 32, 111, 102, 32, 114, 97, 110, 103, 101] = (xfl.drop 335).take 16 := by decide +kernel
set_option maxRecDepth 100000 in
theorem xsg_3 : xsw "AdMarketplace$Parser" 46 [100, 97, 121] = (xfl.drop 351).take 7 := by decide +kernel
set_option maxRecDepth 100000 in
theorem xsg_4 : xsw "AdMarketplace$Parser" 54 [97, 116, 116, 114, 105, 98, 117, 116, 101] = (xfl.drop 358).take 13 := by decide +kernel
set_option maxRecDepth 100000 in
theorem xsg_5 : xsw "AdMarketplace$Parser" 59 [115, 108, 111, 116, 115] = (xfl.drop 371).take 9 := by decide +kernel
set_option maxRecDepth 100000 in
theorem xsg_6 : xsw "AdMarketplace$Parser" 64 [116, 97, 103] = (xfl.drop 380).take 7 := by decide +kernel
set_option maxRecDepth 100000 in
theorem xsg_7 : xsw "AdMarketplace$Parser" 183 [97, 110, 121] = (xfl.drop 387).take 7 := by decide +kernel
set_option maxRecDepth 100000 in
theorem xsg_8 : xsw "AdMarketplace$Parser" 69 [99, 97, 109, 112, 97, 105, 103, 110] = (xfl.drop 400).take 12 := by decide +kernel
set_option maxRecDepth 100000 in
theorem xsg_9 : xsw "AdMarketplace$Parser" 74 [112, 97, 99, 101] = (xfl.drop 412).take 8 := by decide +kernel
set_option maxRecDepth 100000 in
theorem xsg_10 : xsw "AdMarketplace$Parser" 188 [102, 97, 115, 116] = (xfl.drop 420).take 8 := by decide +kernel
set_option maxRecDepth 100000 in
theorem xsg_11 : xsw "AdMarketplace$Parser" 190 [101, 118, 101, 110] = (xfl.drop 428).take 8 := by decide +kernel
set_option maxRecDepth 100000 in
theorem xsg_12 : xsw "AdMarketplace$Parser" 192 [115, 116, 114, 105, 99, 116] = (xfl.drop 436).take 10 := by decide +kernel
set_option maxRecDepth 100000 in
theorem xsg_13 : xsw "AdMarketplace$Parser" 78 [97, 112, 97, 114, 116] = (xfl.drop 446).take 9 := by decide +kernel
set_option maxRecDepth 100000 in
theorem xsg_14 : xsw "AdMarketplace" 370 [110, 111, 32, 115, 117, 99, 104, 32, 116, 97, 103] = (xfl.drop 455).take 15 := by decide +kernel
set_option maxRecDepth 100000 in
theorem xsg_15 : xsw "AdMarketplace" 368 [110, 111, 32, 115, 117, 99, 104, 32, 99, 97, 109, 112, 97, 105, 103, 110] = (xfl.drop 470).take 20 := by decide +kernel
set_option maxRecDepth 100000 in
theorem xsg_16 : xsw "AdMarketplace" 154 [110, 101, 103, 97, 116, 105, 118, 101, 32, 112, 108, 97, 99, 101] = (xfl.drop 490).take 18 := by decide +kernel
set_option maxRecDepth 100000 in
theorem xsg_17 : xsw "AdMarketplace" 228 [116, 111, 111, 32, 109, 97, 110, 121, 32, 105, 109, 112, 114, 101, 115, 115, 105, 111, 110, 115] = (xfl.drop 508).take 24 := by decide +kernel
set_option maxRecDepth 100000 in
theorem xsg_18 : xsw "AdMarketplace" 234 [116, 111, 111, 32, 109, 97, 110, 121, 32, 116, 105, 99, 107, 115] = (xfl.drop 532).take 18 := by decide +kernel
set_option maxRecDepth 100000 in
theorem xsg_19 : xsw "AdMarketplace" 239 [116, 111, 111, 32, 109, 97, 110, 121, 32, 99, 111, 110, 118, 101, 114, 115, 105, 111, 110, 115] = (xfl.drop 550).take 24 := by decide +kernel
set_option maxRecDepth 100000 in
theorem xsg_20 : xsw "AdMarketplace" 269 [112, 97, 117, 115, 101, 100, 32, 97, 108, 114, 101, 97, 100, 121] = (xfl.drop 574).take 18 := by decide +kernel
set_option maxRecDepth 100000 in
theorem xsg_21 : xsw "AdMarketplace" 274 [110, 111, 116, 32, 112, 97, 117, 115, 101, 100] = (xfl.drop 592).take 14 := by decide +kernel
set_option maxRecDepth 100000 in
theorem xsg_22 : xsw "AdMarketplace" 276 [109, 111, 114, 101, 32, 105, 115, 32, 115, 112, 101, 110, 116, 32, 97, 108, 114, 101, 97, 100, 121] = (xfl.drop 606).take 25 := by decide +kernel
set_option maxRecDepth 100000 in
theorem xsg_23 : xsw "AdMarketplace" 286 [110, 111, 32, 115, 117, 99, 104, 32, 105, 109, 112, 114, 101, 115, 115, 105, 111, 110] = (xfl.drop 631).take 22 := by decide +kernel
set_option maxRecDepth 100000 in
theorem xsg_24 : xsw "AdMarketplace" 362 [102, 97, 115, 116] = (xfl.drop 756).take 8 := by decide +kernel
set_option maxRecDepth 100000 in
theorem xsg_25 : xsw "AdMarketplace" 364 [101, 118, 101, 110] = (xfl.drop 765).take 8 := by decide +kernel
set_option maxRecDepth 100000 in
theorem xsg_26 : xsw "AdMarketplace" 366 [115, 116, 114, 105, 99, 116] = (xfl.drop 774).take 10 := by decide +kernel
set_option maxRecDepth 100000 in
theorem xsg_27 : xsw "AdMarketplace" 341 [58, 32] = (xfl.drop 785).take 6 := by decide +kernel
set_option maxRecDepth 100000 in
theorem xsg_28 : xsw "AdMarketplace" 346 [32, 97, 116, 32] = (xfl.drop 791).take 8 := by decide +kernel
set_option maxRecDepth 100000 in
theorem xsg_29 : xsw "AdMarketplace" 348 [32, 112, 97, 117, 115, 101, 100] = (xfl.drop 799).take 11 := by decide +kernel
set_option maxRecDepth 100000 in
theorem xsg_30 : xsw "AdMarketplace" 350 [44, 32, 115, 101, 101, 110, 32, 98, 121, 32] = (xfl.drop 810).take 14 := by decide +kernel
set_option maxRecDepth 100000 in
theorem xsg_31 : xsw "AdMarketplace" 356 [110, 111, 32, 115, 117, 99, 104, 32, 99, 104, 97, 114, 97, 99, 116, 101, 114] = (xfl.drop 824).take 21 := by decide +kernel
set_option maxRecDepth 100000 in
theorem xsg_32 : xsw "AdMarketplaceModel" 177 [100, 97, 121] = (xfl.drop 845).take 7 := by decide +kernel
set_option maxRecDepth 100000 in
theorem xsg_33 : xsw "AdMarketplaceModel" 182 [97, 116, 116, 114, 105, 98, 117, 116, 101] = (xfl.drop 853).take 13 := by decide +kernel
set_option maxRecDepth 100000 in
theorem xsg_34 : xsw "AdMarketplaceModel" 184 [115, 108, 111, 116, 115] = (xfl.drop 867).take 9 := by decide +kernel
set_option maxRecDepth 100000 in
theorem xsg_35 : xsw "AdMarketplaceModel" 189 [116, 97, 103] = (xfl.drop 877).take 7 := by decide +kernel
set_option maxRecDepth 100000 in
theorem xsg_36 : xsw "AdMarketplaceModel" 148 [97, 110, 121] = (xfl.drop 885).take 7 := by decide +kernel
set_option maxRecDepth 100000 in
theorem xsg_37 : xsw "AdMarketplaceModel" 194 [99, 97, 109, 112, 97, 105, 103, 110] = (xfl.drop 893).take 12 := by decide +kernel
set_option maxRecDepth 100000 in
theorem xsg_38 : xsw "AdMarketplaceModel" 199 [112, 97, 99, 101] = (xfl.drop 906).take 8 := by decide +kernel
set_option maxRecDepth 100000 in
theorem xsg_39 : xsw "AdMarketplaceModel" 171 [102, 97, 115, 116] = (xfl.drop 915).take 8 := by decide +kernel
set_option maxRecDepth 100000 in
theorem xsg_40 : xsw "AdMarketplaceModel" 173 [101, 118, 101, 110] = (xfl.drop 925).take 8 := by decide +kernel
set_option maxRecDepth 100000 in
theorem xsg_41 : xsw "AdMarketplaceModel" 175 [115, 116, 114, 105, 99, 116] = (xfl.drop 935).take 10 := by decide +kernel
set_option maxRecDepth 100000 in
theorem xsg_42 : xsw "AdMarketplaceModel" 204 [97, 112, 97, 114, 116] = (xfl.drop 947).take 9 := by decide +kernel
set_option maxRecDepth 100000 in
theorem xsg_43 : xsw "AdMarketplaceModel" 394 [58, 32] = (xfl.drop 957).take 6 := by decide +kernel
set_option maxRecDepth 100000 in
theorem xsg_44 : xsw "AdMarketplaceModel" 399 [32, 97, 116, 32] = (xfl.drop 964).take 8 := by decide +kernel
set_option maxRecDepth 100000 in
theorem xsg_45 : xsw "AdMarketplaceModel" 401 [32, 112, 97, 117, 115, 101, 100] = (xfl.drop 973).take 11 := by decide +kernel
set_option maxRecDepth 100000 in
theorem xsg_46 : xsw "AdMarketplaceModel" 403 [44, 32, 115, 101, 101, 110, 32, 98, 121, 32] = (xfl.drop 985).take 14 := by decide +kernel
/-- all of them -/
theorem xs_all {args : Array Value} {s : State} (hts : ∀ w ∈ tables_1, w.before args s = true) (hf : ∀ w ∈ xfl, w.before args s = true) : ∀ n : Nat, ∃ q : Nat × Nat, ∀ r bs, xSL[n]? = some r → xstb[n]? = some bs → xsfact r.1 r.2.1 r.2.2.1 bs s q.1 q.2 := by
  have seg : ∀ {L : List Cond} {p k : Nat}, L = (xfl.drop p).take k → ∀ w ∈ L, w.before args s = true := fun {L p k} e w hw => hf w (by rw [e] at hw; exact List.mem_of_mem_drop (List.mem_of_mem_take hw))
  intro n
  match n with
  | 0 => obtain ⟨q, hq⟩ := xs_of (tx := "") (by decide) (seg xsg_0) (hts _ (xt1 (i := 92) rfl)); exact ⟨q, fun r bs h1 h2 => by cases h1; cases h2; exact hq⟩
  | 1 => obtain ⟨q, hq⟩ := xs_of (tx := "") (by decide) (seg xsg_1) (hts _ (xt1 (i := 111) rfl)); exact ⟨q, fun r bs h1 h2 => by cases h1; cases h2; exact hq⟩
  | 2 => obtain ⟨q, hq⟩ := xs_of (tx := "out of range") (by decide) (seg xsg_2) (hts _ (xt3 (i := 119) rfl)); exact ⟨q, fun r bs h1 h2 => by cases h1; cases h2; exact hq⟩
  | 3 => obtain ⟨q, hq⟩ := xs_of (tx := "day") (by decide) (seg xsg_3) (hts _ (xt3 (i := 173) rfl)); exact ⟨q, fun r bs h1 h2 => by cases h1; cases h2; exact hq⟩
  | 4 => obtain ⟨q, hq⟩ := xs_of (tx := "attribute") (by decide) (seg xsg_4) (hts _ (xt4 (i := 10) rfl)); exact ⟨q, fun r bs h1 h2 => by cases h1; cases h2; exact hq⟩
  | 5 => obtain ⟨q, hq⟩ := xs_of (tx := "slots") (by decide) (seg xsg_5) (hts _ (xt4 (i := 15) rfl)); exact ⟨q, fun r bs h1 h2 => by cases h1; cases h2; exact hq⟩
  | 6 => obtain ⟨q, hq⟩ := xs_of (tx := "tag") (by decide) (seg xsg_6) (hts _ (xt4 (i := 20) rfl)); exact ⟨q, fun r bs h1 h2 => by cases h1; cases h2; exact hq⟩
  | 7 => obtain ⟨q, hq⟩ := xs_of (tx := "any") (by decide) (seg xsg_7) (hts _ (xt4 (i := 33) rfl)); exact ⟨q, fun r bs h1 h2 => by cases h1; cases h2; exact hq⟩
  | 8 => obtain ⟨q, hq⟩ := xs_of (tx := "campaign") (by decide) (seg xsg_8) (hts _ (xt4 (i := 88) rfl)); exact ⟨q, fun r bs h1 h2 => by cases h1; cases h2; exact hq⟩
  | 9 => obtain ⟨q, hq⟩ := xs_of (tx := "pace") (by decide) (seg xsg_9) (hts _ (xt4 (i := 101) rfl)); exact ⟨q, fun r bs h1 h2 => by cases h1; cases h2; exact hq⟩
  | 10 => obtain ⟨q, hq⟩ := xs_of (tx := "fast") (by decide) (seg xsg_10) (hts _ (xt4 (i := 110) rfl)); exact ⟨q, fun r bs h1 h2 => by cases h1; cases h2; exact hq⟩
  | 11 => obtain ⟨q, hq⟩ := xs_of (tx := "even") (by decide) (seg xsg_11) (hts _ (xt4 (i := 111) rfl)); exact ⟨q, fun r bs h1 h2 => by cases h1; cases h2; exact hq⟩
  | 12 => obtain ⟨q, hq⟩ := xs_of (tx := "strict") (by decide) (seg xsg_12) (hts _ (xt4 (i := 112) rfl)); exact ⟨q, fun r bs h1 h2 => by cases h1; cases h2; exact hq⟩
  | 13 => obtain ⟨q, hq⟩ := xs_of (tx := "apart") (by decide) (seg xsg_13) (hts _ (xt4 (i := 113) rfl)); exact ⟨q, fun r bs h1 h2 => by cases h1; cases h2; exact hq⟩
  | 14 => obtain ⟨q, hq⟩ := xs_of (tx := "no such tag") (by decide) (seg xsg_14) (hts _ (xt4 (i := 147) rfl)); exact ⟨q, fun r bs h1 h2 => by cases h1; cases h2; exact hq⟩
  | 15 => obtain ⟨q, hq⟩ := xs_of (tx := "no such campaign") (by decide) (seg xsg_15) (hts _ (xt4 (i := 165) rfl)); exact ⟨q, fun r bs h1 h2 => by cases h1; cases h2; exact hq⟩
  | 16 => obtain ⟨q, hq⟩ := xs_of (tx := "negative place") (by decide) (seg xsg_16) (hts _ (xt5 (i := 9) rfl)); exact ⟨q, fun r bs h1 h2 => by cases h1; cases h2; exact hq⟩
  | 17 => obtain ⟨q, hq⟩ := xs_of (tx := "too many impressions") (by decide) (seg xsg_17) (hts _ (xt5 (i := 159) rfl)); exact ⟨q, fun r bs h1 h2 => by cases h1; cases h2; exact hq⟩
  | 18 => obtain ⟨q, hq⟩ := xs_of (tx := "too many ticks") (by decide) (seg xsg_18) (hts _ (xt5 (i := 178) rfl)); exact ⟨q, fun r bs h1 h2 => by cases h1; cases h2; exact hq⟩
  | 19 => obtain ⟨q, hq⟩ := xs_of (tx := "too many conversions") (by decide) (seg xsg_19) (hts _ (xt5 (i := 186) rfl)); exact ⟨q, fun r bs h1 h2 => by cases h1; cases h2; exact hq⟩
  | 20 => obtain ⟨q, hq⟩ := xs_of (tx := "paused already") (by decide) (seg xsg_20) (hts _ (xt5 (i := 206) rfl)); exact ⟨q, fun r bs h1 h2 => by cases h1; cases h2; exact hq⟩
  | 21 => obtain ⟨q, hq⟩ := xs_of (tx := "not paused") (by decide) (seg xsg_21) (hts _ (xt5 (i := 215) rfl)); exact ⟨q, fun r bs h1 h2 => by cases h1; cases h2; exact hq⟩
  | 22 => obtain ⟨q, hq⟩ := xs_of (tx := "more is spent already") (by decide) (seg xsg_22) (hts _ (xt5 (i := 230) rfl)); exact ⟨q, fun r bs h1 h2 => by cases h1; cases h2; exact hq⟩
  | 23 => obtain ⟨q, hq⟩ := xs_of (tx := "no such impression") (by decide) (seg xsg_23) (hts _ (xt6 (i := 12) rfl)); exact ⟨q, fun r bs h1 h2 => by cases h1; cases h2; exact hq⟩
  | 24 => obtain ⟨q, hq⟩ := xs_of (tx := "fast") (by decide) (seg xsg_24) (hts _ (xt7 (i := 70) rfl)); exact ⟨q, fun r bs h1 h2 => by cases h1; cases h2; exact hq⟩
  | 25 => obtain ⟨q, hq⟩ := xs_of (tx := "even") (by decide) (seg xsg_25) (hts _ (xt7 (i := 71) rfl)); exact ⟨q, fun r bs h1 h2 => by cases h1; cases h2; exact hq⟩
  | 26 => obtain ⟨q, hq⟩ := xs_of (tx := "strict") (by decide) (seg xsg_26) (hts _ (xt7 (i := 72) rfl)); exact ⟨q, fun r bs h1 h2 => by cases h1; cases h2; exact hq⟩
  | 27 => obtain ⟨q, hq⟩ := xs_of (tx := ": ") (by decide) (seg xsg_27) (hts _ (xt7 (i := 73) rfl)); exact ⟨q, fun r bs h1 h2 => by cases h1; cases h2; exact hq⟩
  | 28 => obtain ⟨q, hq⟩ := xs_of (tx := " at ") (by decide) (seg xsg_28) (hts _ (xt7 (i := 75) rfl)); exact ⟨q, fun r bs h1 h2 => by cases h1; cases h2; exact hq⟩
  | 29 => obtain ⟨q, hq⟩ := xs_of (tx := " paused") (by decide) (seg xsg_29) (hts _ (xt7 (i := 76) rfl)); exact ⟨q, fun r bs h1 h2 => by cases h1; cases h2; exact hq⟩
  | 30 => obtain ⟨q, hq⟩ := xs_of (tx := ", seen by ") (by decide) (seg xsg_30) (hts _ (xt7 (i := 77) rfl)); exact ⟨q, fun r bs h1 h2 => by cases h1; cases h2; exact hq⟩
  | 31 => obtain ⟨q, hq⟩ := xs_of (tx := "no such character") (by decide) (seg xsg_31) (hts _ (xt7 (i := 86) rfl)); exact ⟨q, fun r bs h1 h2 => by cases h1; cases h2; exact hq⟩
  | 32 => obtain ⟨q, hq⟩ := xs_of (tx := "day") (by decide) (seg xsg_32) (hts _ (xt8 (i := 13) rfl)); exact ⟨q, fun r bs h1 h2 => by cases h1; cases h2; exact hq⟩
  | 33 => obtain ⟨q, hq⟩ := xs_of (tx := "attribute") (by decide) (seg xsg_33) (hts _ (xt8 (i := 36) rfl)); exact ⟨q, fun r bs h1 h2 => by cases h1; cases h2; exact hq⟩
  | 34 => obtain ⟨q, hq⟩ := xs_of (tx := "slots") (by decide) (seg xsg_34) (hts _ (xt8 (i := 37) rfl)); exact ⟨q, fun r bs h1 h2 => by cases h1; cases h2; exact hq⟩
  | 35 => obtain ⟨q, hq⟩ := xs_of (tx := "tag") (by decide) (seg xsg_35) (hts _ (xt8 (i := 42) rfl)); exact ⟨q, fun r bs h1 h2 => by cases h1; cases h2; exact hq⟩
  | 36 => obtain ⟨q, hq⟩ := xs_of (tx := "any") (by decide) (seg xsg_36) (hts _ (xt8 (i := 51) rfl)); exact ⟨q, fun r bs h1 h2 => by cases h1; cases h2; exact hq⟩
  | 37 => obtain ⟨q, hq⟩ := xs_of (tx := "campaign") (by decide) (seg xsg_37) (hts _ (xt8 (i := 55) rfl)); exact ⟨q, fun r bs h1 h2 => by cases h1; cases h2; exact hq⟩
  | 38 => obtain ⟨q, hq⟩ := xs_of (tx := "pace") (by decide) (seg xsg_38) (hts _ (xt8 (i := 64) rfl)); exact ⟨q, fun r bs h1 h2 => by cases h1; cases h2; exact hq⟩
  | 39 => obtain ⟨q, hq⟩ := xs_of (tx := "fast") (by decide) (seg xsg_39) (hts _ (xt8 (i := 73) rfl)); exact ⟨q, fun r bs h1 h2 => by cases h1; cases h2; exact hq⟩
  | 40 => obtain ⟨q, hq⟩ := xs_of (tx := "even") (by decide) (seg xsg_40) (hts _ (xt8 (i := 74) rfl)); exact ⟨q, fun r bs h1 h2 => by cases h1; cases h2; exact hq⟩
  | 41 => obtain ⟨q, hq⟩ := xs_of (tx := "strict") (by decide) (seg xsg_41) (hts _ (xt8 (i := 75) rfl)); exact ⟨q, fun r bs h1 h2 => by cases h1; cases h2; exact hq⟩
  | 42 => obtain ⟨q, hq⟩ := xs_of (tx := "apart") (by decide) (seg xsg_42) (hts _ (xt8 (i := 76) rfl)); exact ⟨q, fun r bs h1 h2 => by cases h1; cases h2; exact hq⟩
  | 43 => obtain ⟨q, hq⟩ := xs_of (tx := ": ") (by decide) (seg xsg_43) (hts _ (xt9 (i := 205) rfl)); exact ⟨q, fun r bs h1 h2 => by cases h1; cases h2; exact hq⟩
  | 44 => obtain ⟨q, hq⟩ := xs_of (tx := " at ") (by decide) (seg xsg_44) (hts _ (xt9 (i := 210) rfl)); exact ⟨q, fun r bs h1 h2 => by cases h1; cases h2; exact hq⟩
  | 45 => obtain ⟨q, hq⟩ := xs_of (tx := " paused") (by decide) (seg xsg_45) (hts _ (xt9 (i := 211) rfl)); exact ⟨q, fun r bs h1 h2 => by cases h1; cases h2; exact hq⟩
  | 46 => obtain ⟨q, hq⟩ := xs_of (tx := ", seen by ") (by decide) (seg xsg_46) (hts _ (xt9 (i := 212) rfl)); exact ⟨q, fun r bs h1 h2 => by cases h1; cases h2; exact hq⟩
  | n + 47 => exact ⟨(0, 0), fun r bs h1 _ => by simp at h1⟩
def xdw_o : List Cond := [.arrayOf (.static "java/lang/Integer" "DigitOnes" "[B") .byte, .eq (.length (.static "java/lang/Integer" "DigitOnes" "[B")) (.int (Int32.ofNat 100))] ++ (List.range 100).map (fun j => .eq (.elem (.static "java/lang/Integer" "DigitOnes" "[B") (.int (Int32.ofNat j))) (.int (Int32.ofNat (48 + j % 10))))
set_option maxRecDepth 100000 in
theorem xdg_o : xdw_o = (xfl.drop 12).take 102 := by decide +kernel
theorem xd_o {args : Array Value} {s : State} (hf : ∀ w ∈ xfl, w.before args s = true) : ∃ t : Nat, (Term.static "java/lang/Integer" "DigitOnes" "[B").eval args s none [] s = some (.ref t) ∧ va_T .byte t 100 (fun j => .int (Int32.ofNat (48 + j % 10))) (fun a => s.heap.size ≤ a) s s.heap := by
  have hw : ∀ w ∈ xdw_o, w.before args s = true := fun w hw => hf w (by rw [xdg_o] at hw; exact List.mem_of_mem_drop (List.mem_of_mem_take hw))
  exact va_Tof (by omega) (hw _ List.mem_cons_self) (va_eqt (hw _ (List.mem_cons_of_mem _ List.mem_cons_self))) (fun j hj => va_eqt (hw _ (List.mem_append_right _ (List.mem_map.mpr ⟨j, List.mem_range.mpr hj, rfl⟩)))) (fun a h => Nat.not_le.mpr h)
def xdw_t : List Cond := [.arrayOf (.static "java/lang/Integer" "DigitTens" "[B") .byte, .eq (.length (.static "java/lang/Integer" "DigitTens" "[B")) (.int (Int32.ofNat 100))] ++ (List.range 100).map (fun j => .eq (.elem (.static "java/lang/Integer" "DigitTens" "[B") (.int (Int32.ofNat j))) (.int (Int32.ofNat (48 + j / 10))))
set_option maxRecDepth 100000 in
theorem xdg_t : xdw_t = (xfl.drop 115).take 102 := by decide +kernel
theorem xd_t {args : Array Value} {s : State} (hf : ∀ w ∈ xfl, w.before args s = true) : ∃ t : Nat, (Term.static "java/lang/Integer" "DigitTens" "[B").eval args s none [] s = some (.ref t) ∧ va_T .byte t 100 (fun j => .int (Int32.ofNat (48 + j / 10))) (fun a => s.heap.size ≤ a) s s.heap := by
  have hw : ∀ w ∈ xdw_t, w.before args s = true := fun w hw => hf w (by rw [xdg_t] at hw; exact List.mem_of_mem_drop (List.mem_of_mem_take hw))
  exact va_Tof (by omega) (hw _ List.mem_cons_self) (va_eqt (hw _ (List.mem_cons_of_mem _ List.mem_cons_self))) (fun j hj => va_eqt (hw _ (List.mem_append_right _ (List.mem_map.mpr ⟨j, List.mem_range.mpr hj, rfl⟩)))) (fun a h => Nat.not_le.mpr h)
/-- the constants' memory -/
def xhk (L i : Nat) : Nat × Nat := if i = 0 then (100, L) else if i < 3 then (102, 100) else if i < 97 then (if i % 2 = 1 then (12, 0) else (102, (xstb.getD ((i - 4) / 2) []).length)) else if i < 160 then (998, 0) else (999, 0)
def xhi (xs : Nat → Int32) (i j : Nat) : Int32 := if i = 0 then xs j else if i = 1 then Int32.ofNat (48 + j % 10) else if i = 2 then Int32.ofNat (48 + j / 10) else if i % 2 = 1 then 0 else (xstb.getD ((i - 4) / 2) []).getD j 0
def xhr (i k : Nat) : Option Nat := if 3 ≤ i ∧ i < 97 ∧ i % 2 = 1 ∧ k = 0 then some (i + 1) else none
def xhc (L : Nat) (xs : Nat → Int32) : xm_H := (160, xhk L, xhi xs, fun _ _ => 0, fun _ _ => 0, xhr)
theorem xstb_len : xstb.length = 47 := by decide +kernel
theorem xSL_len : xSL.length = 47 := by decide +kernel
theorem xSL_cell : ∀ n : Nat, n < 47 → ∀ r, xSL[n]? = some r → r.2.2.2 = 3 + 2 * n := by
  intro n hn r hr
  have : ∀ n : Fin 47, (xSL[n.val]?).all (fun r => decide (r.2.2.2 = 3 + 2 * n.val)) = true := by decide +kernel
  have h := this ⟨n, hn⟩
  rw [show xSL[(⟨n, hn⟩ : Fin 47).val]? = some r from hr] at h
  simpa using h
/-- the law out of its run in the little machine -/
def xm_law (d : Nat) : Prop := ∀ (L : Nat) (xs : Nat → Int32), L ≤ 3072 → xm_W (xm_Rn xX d) xM_L_law (fun o h => o = .inl (some (.int 1)) ∧ xm_n h ≤ 600000 ∧ xm_sz h ≤ 7290000) 0 (xm_en 9 [.ref 0]) [] (xhc L xs)
