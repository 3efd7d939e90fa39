/-! printed by wip/gen/gen13.py: the links of the method tables, by numbers, with their words -/
abbrev xon : List String := ["AdMarketplace$Campaign", "AdMarketplace$Conversions", "AdMarketplace$Exchange", "AdMarketplace$History", "AdMarketplace$Impressions", "AdMarketplace$Parser", "AdMarketplace$Rules", "AdMarketplace$Standing", "AdMarketplace$Tag", "AdMarketplace$Tokens", "AdMarketplace", "AdMarketplaceModel", "java/lang/AbstractStringBuilder", "java/lang/ArrayIndexOutOfBoundsException", "java/lang/Integer", "java/lang/String", "java/lang/StringBuilder", "java/lang/StringIndexOutOfBoundsException", "java/lang/StringLatin1", "java/lang/StringUTF16", "java/util/Arrays", "jdk/internal/util/ArraysSupport", "jdk/internal/util/Preconditions", "AdMarketplaceLaw"]
theorem xh1 {i : Nat} {w : Cond} (h : tables_1_1[i]? = some w) (g : goodWord w = true) : w ∈ xgd := List.mem_filter.mpr ⟨List.mem_append_right _ (List.mem_append_right _ (xt1 h)), g⟩
theorem xn1 {i : Nat} {w : Cond} (h : tables_1_1[i]? = some w) (g : xm_isN w = true) : w ∈ xnw := List.mem_filter.mpr ⟨List.mem_append_right _ (xt1 h), g⟩
theorem xh2 {i : Nat} {w : Cond} (h : tables_1_2[i]? = some w) (g : goodWord w = true) : w ∈ xgd := List.mem_filter.mpr ⟨List.mem_append_right _ (List.mem_append_right _ (xt2 h)), g⟩
theorem xn2 {i : Nat} {w : Cond} (h : tables_1_2[i]? = some w) (g : xm_isN w = true) : w ∈ xnw := List.mem_filter.mpr ⟨List.mem_append_right _ (xt2 h), g⟩
theorem xh3 {i : Nat} {w : Cond} (h : tables_1_3[i]? = some w) (g : goodWord w = true) : w ∈ xgd := List.mem_filter.mpr ⟨List.mem_append_right _ (List.mem_append_right _ (xt3 h)), g⟩
theorem xn3 {i : Nat} {w : Cond} (h : tables_1_3[i]? = some w) (g : xm_isN w = true) : w ∈ xnw := List.mem_filter.mpr ⟨List.mem_append_right _ (xt3 h), g⟩
theorem xh4 {i : Nat} {w : Cond} (h : tables_1_4[i]? = some w) (g : goodWord w = true) : w ∈ xgd := List.mem_filter.mpr ⟨List.mem_append_right _ (List.mem_append_right _ (xt4 h)), g⟩
theorem xn4 {i : Nat} {w : Cond} (h : tables_1_4[i]? = some w) (g : xm_isN w = true) : w ∈ xnw := List.mem_filter.mpr ⟨List.mem_append_right _ (xt4 h), g⟩
theorem xh5 {i : Nat} {w : Cond} (h : tables_1_5[i]? = some w) (g : goodWord w = true) : w ∈ xgd := List.mem_filter.mpr ⟨List.mem_append_right _ (List.mem_append_right _ (xt5 h)), g⟩
theorem xn5 {i : Nat} {w : Cond} (h : tables_1_5[i]? = some w) (g : xm_isN w = true) : w ∈ xnw := List.mem_filter.mpr ⟨List.mem_append_right _ (xt5 h), g⟩
theorem xh6 {i : Nat} {w : Cond} (h : tables_1_6[i]? = some w) (g : goodWord w = true) : w ∈ xgd := List.mem_filter.mpr ⟨List.mem_append_right _ (List.mem_append_right _ (xt6 h)), g⟩
theorem xn6 {i : Nat} {w : Cond} (h : tables_1_6[i]? = some w) (g : xm_isN w = true) : w ∈ xnw := List.mem_filter.mpr ⟨List.mem_append_right _ (xt6 h), g⟩
theorem xh7 {i : Nat} {w : Cond} (h : tables_1_7[i]? = some w) (g : goodWord w = true) : w ∈ xgd := List.mem_filter.mpr ⟨List.mem_append_right _ (List.mem_append_right _ (xt7 h)), g⟩
theorem xn7 {i : Nat} {w : Cond} (h : tables_1_7[i]? = some w) (g : xm_isN w = true) : w ∈ xnw := List.mem_filter.mpr ⟨List.mem_append_right _ (xt7 h), g⟩
theorem xh8 {i : Nat} {w : Cond} (h : tables_1_8[i]? = some w) (g : goodWord w = true) : w ∈ xgd := List.mem_filter.mpr ⟨List.mem_append_right _ (List.mem_append_right _ (xt8 h)), g⟩
theorem xn8 {i : Nat} {w : Cond} (h : tables_1_8[i]? = some w) (g : xm_isN w = true) : w ∈ xnw := List.mem_filter.mpr ⟨List.mem_append_right _ (xt8 h), g⟩
theorem xh9 {i : Nat} {w : Cond} (h : tables_1_9[i]? = some w) (g : goodWord w = true) : w ∈ xgd := List.mem_filter.mpr ⟨List.mem_append_right _ (List.mem_append_right _ (xt9 h)), g⟩
theorem xn9 {i : Nat} {w : Cond} (h : tables_1_9[i]? = some w) (g : xm_isN w = true) : w ∈ xnw := List.mem_filter.mpr ⟨List.mem_append_right _ (xt9 h), g⟩
/-- class, entry, class number, field, sort -/
def xm_fq (q : Nat × Nat × Nat × Nat × Nat) : Prop := xm_fok (xon.getD q.1 "") q.2.1 q.2.2.1 q.2.2.2.1 q.2.2.2.2
set_option maxRecDepth 100000 in
theorem xFL_p0_0 : xm_fq (0, 9, 1, 0, 6) := ⟨_, _, rfl, by decide, by decide, rfl, rfl, xh1 (i := 112) rfl rfl⟩
set_option maxRecDepth 100000 in
theorem xFL_p0_1 : xm_fq (1, 9, 2, 0, 6) := ⟨_, _, rfl, by decide, by decide, rfl, rfl, xh2 (i := 140) rfl rfl⟩
set_option maxRecDepth 100000 in
theorem xFL_p0_2 : xm_fq (1, 15, 2, 1, 6) := ⟨_, _, rfl, by decide, by decide, rfl, rfl, xh2 (i := 142) rfl rfl⟩
set_option maxRecDepth 100000 in
theorem xFL_p0_3 : xm_fq (1, 18, 2, 2, 6) := ⟨_, _, rfl, by decide, by decide, rfl, rfl, xh2 (i := 143) rfl rfl⟩
set_option maxRecDepth 100000 in
theorem xFL_p0_4 : xm_fq (1, 21, 2, 3, 6) := ⟨_, _, rfl, by decide, by decide, rfl, rfl, xh2 (i := 145) rfl rfl⟩
set_option maxRecDepth 100000 in
theorem xFL_p0_5 : xm_fq (1, 24, 2, 4, 6) := ⟨_, _, rfl, by decide, by decide, rfl, rfl, xh2 (i := 147) rfl rfl⟩
set_option maxRecDepth 100000 in
theorem xFL_p0_6 : xm_fq (2, 12, 3, 0, 6) := ⟨_, _, rfl, by decide, by decide, rfl, rfl, xh2 (i := 92) rfl rfl⟩
set_option maxRecDepth 100000 in
theorem xFL_p0_7 : xm_fq (2, 21, 3, 1, 6) := ⟨_, _, rfl, by decide, by decide, rfl, rfl, xh2 (i := 94) rfl rfl⟩
set_option maxRecDepth 100000 in
theorem xFL_p0_8 : xm_fq (2, 32, 3, 2, 6) := ⟨_, _, rfl, by decide, by decide, rfl, rfl, xh2 (i := 96) rfl rfl⟩
set_option maxRecDepth 100000 in
theorem xFL_p0_9 : xm_fq (2, 36, 3, 3, 6) := ⟨_, _, rfl, by decide, by decide, rfl, rfl, xh2 (i := 98) rfl rfl⟩
set_option maxRecDepth 100000 in
theorem xFL_p0_10 : xm_fq (2, 40, 3, 4, 6) := ⟨_, _, rfl, by decide, by decide, rfl, rfl, xh2 (i := 100) rfl rfl⟩
set_option maxRecDepth 100000 in
theorem xFL_p0_11 : xm_fq (2, 43, 3, 5, 6) := ⟨_, _, rfl, by decide, by decide, rfl, rfl, xh2 (i := 101) rfl rfl⟩
set_option maxRecDepth 100000 in
theorem xFL_p0_12 : xm_fq (2, 46, 3, 7, 6) := ⟨_, _, rfl, by decide, by decide, rfl, rfl, xh2 (i := 105) rfl rfl⟩
set_option maxRecDepth 100000 in
theorem xFL_p0_13 : xm_fq (2, 49, 3, 8, 6) := ⟨_, _, rfl, by decide, by decide, rfl, rfl, xh2 (i := 107) rfl rfl⟩
set_option maxRecDepth 100000 in
theorem xFL_p0_14 : xm_fq (2, 52, 8, 5, 6) := ⟨_, _, rfl, by decide, by decide, rfl, rfl, xh2 (i := 11) rfl rfl⟩
set_option maxRecDepth 100000 in
theorem xFL_p0_15 : xm_fq (2, 55, 8, 9, 6) := ⟨_, _, rfl, by decide, by decide, rfl, rfl, xh2 (i := 23) rfl rfl⟩
set_option maxRecDepth 100000 in
theorem xFL_p0_16 : xm_fq (2, 62, 7, 0, 0) := ⟨_, _, rfl, by decide, by decide, rfl, rfl, xh1 (i := 152) rfl rfl⟩
set_option maxRecDepth 100000 in
theorem xFL_p0_17 : xm_fq (2, 66, 8, 6, 6) := ⟨_, _, rfl, by decide, by decide, rfl, rfl, xh2 (i := 14) rfl rfl⟩
set_option maxRecDepth 100000 in
theorem xFL_p0_18 : xm_fq (2, 69, 8, 1, 0) := ⟨_, _, rfl, by decide, by decide, rfl, rfl, xh2 (i := 1) rfl rfl⟩
set_option maxRecDepth 100000 in
theorem xFL_p0_19 : xm_fq (2, 72, 8, 8, 6) := ⟨_, _, rfl, by decide, by decide, rfl, rfl, xh2 (i := 20) rfl rfl⟩
set_option maxRecDepth 100000 in
theorem xFL_p0_20 : xm_fq (2, 75, 7, 7, 0) := ⟨_, _, rfl, by decide, by decide, rfl, rfl, xh1 (i := 177) rfl rfl⟩
set_option maxRecDepth 100000 in
theorem xFL_p0_21 : xm_fq (2, 78, 8, 7, 6) := ⟨_, _, rfl, by decide, by decide, rfl, rfl, xh2 (i := 17) rfl rfl⟩
set_option maxRecDepth 100000 in
theorem xFL_p0_22 : xm_fq (2, 85, 8, 0, 0) := ⟨_, _, rfl, by decide, by decide, rfl, rfl, xh1 (i := 238) rfl rfl⟩
set_option maxRecDepth 100000 in
theorem xFL_p0_23 : xm_fq (2, 103, 8, 2, 0) := ⟨_, _, rfl, by decide, by decide, rfl, rfl, xh2 (i := 3) rfl rfl⟩
set_option maxRecDepth 100000 in
theorem xFL_p0_24 : xm_fq (2, 106, 5, 2, 6) := ⟨_, _, rfl, by decide, by decide, rfl, rfl, xh2 (i := 73) rfl rfl⟩
set_option maxRecDepth 100000 in
theorem xFL_p0_25 : xm_fq (2, 109, 5, 1, 6) := ⟨_, _, rfl, by decide, by decide, rfl, rfl, xh2 (i := 70) rfl rfl⟩
set_option maxRecDepth 100000 in
theorem xFL_p0_26 : xm_fq (2, 112, 5, 0, 6) := ⟨_, _, rfl, by decide, by decide, rfl, rfl, xh2 (i := 67) rfl rfl⟩
set_option maxRecDepth 100000 in
theorem xFL_p0_27 : xm_fq (2, 115, 7, 6, 6) := ⟨_, _, rfl, by decide, by decide, rfl, rfl, xh1 (i := 172) rfl rfl⟩
set_option maxRecDepth 100000 in
theorem xFL_p0_28 : xm_fq (2, 118, 1, 4, 0) := ⟨_, _, rfl, by decide, by decide, rfl, rfl, xh1 (i := 122) rfl rfl⟩
set_option maxRecDepth 100000 in
theorem xFL_p0_29 : xm_fq (2, 123, 8, 10, 6) := ⟨_, _, rfl, by decide, by decide, rfl, rfl, xh2 (i := 26) rfl rfl⟩
set_option maxRecDepth 100000 in
theorem xFL_p0_30 : xm_fq (2, 127, 1, 5, 0) := ⟨_, _, rfl, by decide, by decide, rfl, rfl, xh1 (i := 124) rfl rfl⟩
set_option maxRecDepth 100000 in
theorem xFL_p0_31 : xm_fq (2, 133, 1, 3, 0) := ⟨_, _, rfl, by decide, by decide, rfl, rfl, xh1 (i := 120) rfl rfl⟩
set_option maxRecDepth 100000 in
theorem xFL_p0_32 : xm_fq (2, 139, 3, 6, 0) := ⟨_, _, rfl, by decide, by decide, rfl, rfl, xh2 (i := 103) rfl rfl⟩
set_option maxRecDepth 100000 in
theorem xFL_p0_33 : xm_fq (2, 152, 3, 9, 0) := ⟨_, _, rfl, by decide, by decide, rfl, rfl, xh2 (i := 109) rfl rfl⟩
set_option maxRecDepth 100000 in
theorem xFL_p0_34 : xm_fq (2, 155, 1, 7, 0) := ⟨_, _, rfl, by decide, by decide, rfl, rfl, xh1 (i := 128) rfl rfl⟩
set_option maxRecDepth 100000 in
theorem xFL_p0_35 : xm_fq (2, 161, 7, 2, 6) := ⟨_, _, rfl, by decide, by decide, rfl, rfl, xh1 (i := 158) rfl rfl⟩
set_option maxRecDepth 100000 in
theorem xFL_p0_36 : xm_fq (2, 164, 8, 4, 6) := ⟨_, _, rfl, by decide, by decide, rfl, rfl, xh2 (i := 9) rfl rfl⟩
set_option maxRecDepth 100000 in
theorem xFL_p0_37 : xm_fq (2, 178, 5, 3, 6) := ⟨_, _, rfl, by decide, by decide, rfl, rfl, xh2 (i := 76) rfl rfl⟩
set_option maxRecDepth 100000 in
theorem xFL_p0_38 : xm_fq (2, 181, 5, 4, 6) := ⟨_, _, rfl, by decide, by decide, rfl, rfl, xh2 (i := 79) rfl rfl⟩
set_option maxRecDepth 100000 in
theorem xFL_p0_39 : xm_fq (3, 11, 4, 0, 6) := ⟨_, _, rfl, by decide, by decide, rfl, rfl, xh2 (i := 168) rfl rfl⟩
def xFL_0 : List (Nat × Nat × Nat × Nat × Nat) := [(0, 9, 1, 0, 6), (1, 9, 2, 0, 6), (1, 15, 2, 1, 6), (1, 18, 2, 2, 6), (1, 21, 2, 3, 6), (1, 24, 2, 4, 6), (2, 12, 3, 0, 6), (2, 21, 3, 1, 6), (2, 32, 3, 2, 6), (2, 36, 3, 3, 6), (2, 40, 3, 4, 6), (2, 43, 3, 5, 6), (2, 46, 3, 7, 6), (2, 49, 3, 8, 6), (2, 52, 8, 5, 6), (2, 55, 8, 9, 6), (2, 62, 7, 0, 0), (2, 66, 8, 6, 6), (2, 69, 8, 1, 0), (2, 72, 8, 8, 6), (2, 75, 7, 7, 0), (2, 78, 8, 7, 6), (2, 85, 8, 0, 0), (2, 103, 8, 2, 0), (2, 106, 5, 2, 6), (2, 109, 5, 1, 6), (2, 112, 5, 0, 6), (2, 115, 7, 6, 6), (2, 118, 1, 4, 0), (2, 123, 8, 10, 6), (2, 127, 1, 5, 0), (2, 133, 1, 3, 0), (2, 139, 3, 6, 0), (2, 152, 3, 9, 0), (2, 155, 1, 7, 0), (2, 161, 7, 2, 6), (2, 164, 8, 4, 6), (2, 178, 5, 3, 6), (2, 181, 5, 4, 6), (3, 11, 4, 0, 6)]
theorem xFL_ok0 : ∀ q ∈ xFL_0, xm_fq q := List.forall_mem_cons.mpr ⟨xFL_p0_0, List.forall_mem_cons.mpr ⟨xFL_p0_1, List.forall_mem_cons.mpr ⟨xFL_p0_2, List.forall_mem_cons.mpr ⟨xFL_p0_3, List.forall_mem_cons.mpr ⟨xFL_p0_4, List.forall_mem_cons.mpr ⟨xFL_p0_5, List.forall_mem_cons.mpr ⟨xFL_p0_6, List.forall_mem_cons.mpr ⟨xFL_p0_7, List.forall_mem_cons.mpr ⟨xFL_p0_8, List.forall_mem_cons.mpr ⟨xFL_p0_9, List.forall_mem_cons.mpr ⟨xFL_p0_10, List.forall_mem_cons.mpr ⟨xFL_p0_11, List.forall_mem_cons.mpr ⟨xFL_p0_12, List.forall_mem_cons.mpr ⟨xFL_p0_13, List.forall_mem_cons.mpr ⟨xFL_p0_14, List.forall_mem_cons.mpr ⟨xFL_p0_15, List.forall_mem_cons.mpr ⟨xFL_p0_16, List.forall_mem_cons.mpr ⟨xFL_p0_17, List.forall_mem_cons.mpr ⟨xFL_p0_18, List.forall_mem_cons.mpr ⟨xFL_p0_19, List.forall_mem_cons.mpr ⟨xFL_p0_20, List.forall_mem_cons.mpr ⟨xFL_p0_21, List.forall_mem_cons.mpr ⟨xFL_p0_22, List.forall_mem_cons.mpr ⟨xFL_p0_23, List.forall_mem_cons.mpr ⟨xFL_p0_24, List.forall_mem_cons.mpr ⟨xFL_p0_25, List.forall_mem_cons.mpr ⟨xFL_p0_26, List.forall_mem_cons.mpr ⟨xFL_p0_27, List.forall_mem_cons.mpr ⟨xFL_p0_28, List.forall_mem_cons.mpr ⟨xFL_p0_29, List.forall_mem_cons.mpr ⟨xFL_p0_30, List.forall_mem_cons.mpr ⟨xFL_p0_31, List.forall_mem_cons.mpr ⟨xFL_p0_32, List.forall_mem_cons.mpr ⟨xFL_p0_33, List.forall_mem_cons.mpr ⟨xFL_p0_34, List.forall_mem_cons.mpr ⟨xFL_p0_35, List.forall_mem_cons.mpr ⟨xFL_p0_36, List.forall_mem_cons.mpr ⟨xFL_p0_37, List.forall_mem_cons.mpr ⟨xFL_p0_38, List.forall_mem_cons.mpr ⟨xFL_p0_39, fun _ h => absurd h List.not_mem_nil⟩⟩⟩⟩⟩⟩⟩⟩⟩⟩⟩⟩⟩⟩⟩⟩⟩⟩⟩⟩⟩⟩⟩⟩⟩⟩⟩⟩⟩⟩⟩⟩⟩⟩⟩⟩⟩⟩⟩⟩
set_option maxRecDepth 100000 in
theorem xFL_p1_0 : xm_fq (3, 18, 4, 1, 0) := ⟨_, _, rfl, by decide, by decide, rfl, rfl, xh2 (i := 169) rfl rfl⟩
set_option maxRecDepth 100000 in
theorem xFL_p1_1 : xm_fq (3, 22, 4, 2, 0) := ⟨_, _, rfl, by decide, by decide, rfl, rfl, xh2 (i := 170) rfl rfl⟩
set_option maxRecDepth 100000 in
theorem xFL_p1_2 : xm_fq (4, 11, 5, 0, 6) := ⟨_, _, rfl, by decide, by decide, rfl, rfl, xh2 (i := 66) rfl rfl⟩
set_option maxRecDepth 100000 in
theorem xFL_p1_3 : xm_fq (4, 15, 5, 1, 6) := ⟨_, _, rfl, by decide, by decide, rfl, rfl, xh2 (i := 69) rfl rfl⟩
set_option maxRecDepth 100000 in
theorem xFL_p1_4 : xm_fq (4, 18, 5, 2, 6) := ⟨_, _, rfl, by decide, by decide, rfl, rfl, xh2 (i := 72) rfl rfl⟩
set_option maxRecDepth 100000 in
theorem xFL_p1_5 : xm_fq (4, 21, 5, 3, 6) := ⟨_, _, rfl, by decide, by decide, rfl, rfl, xh2 (i := 75) rfl rfl⟩
set_option maxRecDepth 100000 in
theorem xFL_p1_6 : xm_fq (4, 24, 5, 4, 6) := ⟨_, _, rfl, by decide, by decide, rfl, rfl, xh2 (i := 78) rfl rfl⟩
set_option maxRecDepth 100000 in
theorem xFL_p1_7 : xm_fq (5, 12, 6, 0, 6) := ⟨_, _, rfl, by decide, by decide, rfl, rfl, xh1 (i := 200) rfl rfl⟩
set_option maxRecDepth 100000 in
theorem xFL_p1_8 : xm_fq (5, 21, 6, 3, 6) := ⟨_, _, rfl, by decide, by decide, rfl, rfl, xh1 (i := 204) rfl rfl⟩
set_option maxRecDepth 100000 in
theorem xFL_p1_9 : xm_fq (5, 25, 6, 4, 0) := ⟨_, _, rfl, by decide, by decide, rfl, rfl, xh1 (i := 206) rfl rfl⟩
set_option maxRecDepth 100000 in
theorem xFL_p1_10 : xm_fq (5, 29, 6, 5, 0) := ⟨_, _, rfl, by decide, by decide, rfl, rfl, xh1 (i := 208) rfl rfl⟩
set_option maxRecDepth 100000 in
theorem xFL_p1_11 : xm_fq (5, 39, 10, 4, 0) := ⟨_, _, rfl, by decide, by decide, rfl, rfl, xh1 (i := 57) rfl rfl⟩
set_option maxRecDepth 100000 in
theorem xFL_p1_12 : xm_fq (5, 92, 6, 1, 0) := ⟨_, _, rfl, by decide, by decide, rfl, rfl, xh1 (i := 202) rfl rfl⟩
set_option maxRecDepth 100000 in
theorem xFL_p1_13 : xm_fq (5, 95, 7, 0, 0) := ⟨_, _, rfl, by decide, by decide, rfl, rfl, xh1 (i := 151) rfl rfl⟩
set_option maxRecDepth 100000 in
theorem xFL_p1_14 : xm_fq (5, 101, 7, 1, 0) := ⟨_, _, rfl, by decide, by decide, rfl, rfl, xh1 (i := 154) rfl rfl⟩
set_option maxRecDepth 100000 in
theorem xFL_p1_15 : xm_fq (5, 104, 7, 2, 6) := ⟨_, _, rfl, by decide, by decide, rfl, rfl, xh1 (i := 157) rfl rfl⟩
set_option maxRecDepth 100000 in
theorem xFL_p1_16 : xm_fq (5, 107, 7, 3, 0) := ⟨_, _, rfl, by decide, by decide, rfl, rfl, xh1 (i := 160) rfl rfl⟩
set_option maxRecDepth 100000 in
theorem xFL_p1_17 : xm_fq (5, 117, 7, 5, 0) := ⟨_, _, rfl, by decide, by decide, rfl, rfl, xh1 (i := 167) rfl rfl⟩
set_option maxRecDepth 100000 in
theorem xFL_p1_18 : xm_fq (5, 120, 7, 4, 6) := ⟨_, _, rfl, by decide, by decide, rfl, rfl, xh1 (i := 164) rfl rfl⟩
set_option maxRecDepth 100000 in
theorem xFL_p1_19 : xm_fq (5, 135, 9, 0, 6) := ⟨_, _, rfl, by decide, by decide, rfl, rfl, xh1 (i := 94) rfl rfl⟩
set_option maxRecDepth 100000 in
theorem xFL_p1_20 : xm_fq (5, 141, 9, 1, 0) := ⟨_, _, rfl, by decide, by decide, rfl, rfl, xh1 (i := 96) rfl rfl⟩
set_option maxRecDepth 100000 in
theorem xFL_p1_21 : xm_fq (5, 144, 7, 7, 0) := ⟨_, _, rfl, by decide, by decide, rfl, rfl, xh1 (i := 178) rfl rfl⟩
set_option maxRecDepth 100000 in
theorem xFL_p1_22 : xm_fq (5, 147, 7, 6, 6) := ⟨_, _, rfl, by decide, by decide, rfl, rfl, xh1 (i := 171) rfl rfl⟩
set_option maxRecDepth 100000 in
theorem xFL_p1_23 : xm_fq (5, 154, 1, 0, 6) := ⟨_, _, rfl, by decide, by decide, rfl, rfl, xh1 (i := 113) rfl rfl⟩
set_option maxRecDepth 100000 in
theorem xFL_p1_24 : xm_fq (5, 157, 1, 1, 0) := ⟨_, _, rfl, by decide, by decide, rfl, rfl, xh1 (i := 116) rfl rfl⟩
set_option maxRecDepth 100000 in
theorem xFL_p1_25 : xm_fq (5, 160, 1, 2, 0) := ⟨_, _, rfl, by decide, by decide, rfl, rfl, xh1 (i := 118) rfl rfl⟩
set_option maxRecDepth 100000 in
theorem xFL_p1_26 : xm_fq (5, 163, 1, 3, 0) := ⟨_, _, rfl, by decide, by decide, rfl, rfl, xh1 (i := 119) rfl rfl⟩
set_option maxRecDepth 100000 in
theorem xFL_p1_27 : xm_fq (5, 166, 1, 4, 0) := ⟨_, _, rfl, by decide, by decide, rfl, rfl, xh1 (i := 121) rfl rfl⟩
set_option maxRecDepth 100000 in
theorem xFL_p1_28 : xm_fq (5, 172, 6, 2, 0) := ⟨_, _, rfl, by decide, by decide, rfl, rfl, xh1 (i := 203) rfl rfl⟩
set_option maxRecDepth 100000 in
theorem xFL_p1_29 : xm_fq (5, 175, 1, 5, 0) := ⟨_, _, rfl, by decide, by decide, rfl, rfl, xh1 (i := 123) rfl rfl⟩
set_option maxRecDepth 100000 in
theorem xFL_p1_30 : xm_fq (5, 178, 1, 6, 0) := ⟨_, _, rfl, by decide, by decide, rfl, rfl, xh1 (i := 126) rfl rfl⟩
set_option maxRecDepth 100000 in
theorem xFL_p1_31 : xm_fq (5, 181, 1, 7, 0) := ⟨_, _, rfl, by decide, by decide, rfl, rfl, xh1 (i := 127) rfl rfl⟩
set_option maxRecDepth 100000 in
theorem xFL_p1_32 : xm_fq (5, 194, 7, 8, 0) := ⟨_, _, rfl, by decide, by decide, rfl, rfl, xh1 (i := 180) rfl rfl⟩
set_option maxRecDepth 100000 in
theorem xFL_p1_33 : xm_fq (5, 197, 10, 6, 0) := ⟨_, _, rfl, by decide, by decide, rfl, rfl, xh1 (i := 62) rfl rfl⟩
set_option maxRecDepth 100000 in
theorem xFL_p1_34 : xm_fq (5, 200, 10, 5, 0) := ⟨_, _, rfl, by decide, by decide, rfl, rfl, xh1 (i := 60) rfl rfl⟩
set_option maxRecDepth 100000 in
theorem xFL_p1_35 : xm_fq (6, 9, 7, 2, 6) := ⟨_, _, rfl, by decide, by decide, rfl, rfl, xh1 (i := 156) rfl rfl⟩
set_option maxRecDepth 100000 in
theorem xFL_p1_36 : xm_fq (6, 17, 7, 4, 6) := ⟨_, _, rfl, by decide, by decide, rfl, rfl, xh1 (i := 162) rfl rfl⟩
set_option maxRecDepth 100000 in
theorem xFL_p1_37 : xm_fq (6, 24, 7, 6, 6) := ⟨_, _, rfl, by decide, by decide, rfl, rfl, xh1 (i := 169) rfl rfl⟩
set_option maxRecDepth 100000 in
theorem xFL_p1_38 : xm_fq (6, 32, 7, 0, 0) := ⟨_, _, rfl, by decide, by decide, rfl, rfl, xh1 (i := 150) rfl rfl⟩
set_option maxRecDepth 100000 in
theorem xFL_p1_39 : xm_fq (6, 36, 7, 1, 0) := ⟨_, _, rfl, by decide, by decide, rfl, rfl, xh1 (i := 153) rfl rfl⟩
def xFL_1 : List (Nat × Nat × Nat × Nat × Nat) := [(3, 18, 4, 1, 0), (3, 22, 4, 2, 0), (4, 11, 5, 0, 6), (4, 15, 5, 1, 6), (4, 18, 5, 2, 6), (4, 21, 5, 3, 6), (4, 24, 5, 4, 6), (5, 12, 6, 0, 6), (5, 21, 6, 3, 6), (5, 25, 6, 4, 0), (5, 29, 6, 5, 0), (5, 39, 10, 4, 0), (5, 92, 6, 1, 0), (5, 95, 7, 0, 0), (5, 101, 7, 1, 0), (5, 104, 7, 2, 6), (5, 107, 7, 3, 0), (5, 117, 7, 5, 0), (5, 120, 7, 4, 6), (5, 135, 9, 0, 6), (5, 141, 9, 1, 0), (5, 144, 7, 7, 0), (5, 147, 7, 6, 6), (5, 154, 1, 0, 6), (5, 157, 1, 1, 0), (5, 160, 1, 2, 0), (5, 163, 1, 3, 0), (5, 166, 1, 4, 0), (5, 172, 6, 2, 0), (5, 175, 1, 5, 0), (5, 178, 1, 6, 0), (5, 181, 1, 7, 0), (5, 194, 7, 8, 0), (5, 197, 10, 6, 0), (5, 200, 10, 5, 0), (6, 9, 7, 2, 6), (6, 17, 7, 4, 6), (6, 24, 7, 6, 6), (6, 32, 7, 0, 0), (6, 36, 7, 1, 0)]
theorem xFL_ok1 : ∀ q ∈ xFL_1, xm_fq q := List.forall_mem_cons.mpr ⟨xFL_p1_0, List.forall_mem_cons.mpr ⟨xFL_p1_1, List.forall_mem_cons.mpr ⟨xFL_p1_2, List.forall_mem_cons.mpr ⟨xFL_p1_3, List.forall_mem_cons.mpr ⟨xFL_p1_4, List.forall_mem_cons.mpr ⟨xFL_p1_5, List.forall_mem_cons.mpr ⟨xFL_p1_6, List.forall_mem_cons.mpr ⟨xFL_p1_7, List.forall_mem_cons.mpr ⟨xFL_p1_8, List.forall_mem_cons.mpr ⟨xFL_p1_9, List.forall_mem_cons.mpr ⟨xFL_p1_10, List.forall_mem_cons.mpr ⟨xFL_p1_11, List.forall_mem_cons.mpr ⟨xFL_p1_12, List.forall_mem_cons.mpr ⟨xFL_p1_13, List.forall_mem_cons.mpr ⟨xFL_p1_14, List.forall_mem_cons.mpr ⟨xFL_p1_15, List.forall_mem_cons.mpr ⟨xFL_p1_16, List.forall_mem_cons.mpr ⟨xFL_p1_17, List.forall_mem_cons.mpr ⟨xFL_p1_18, List.forall_mem_cons.mpr ⟨xFL_p1_19, List.forall_mem_cons.mpr ⟨xFL_p1_20, List.forall_mem_cons.mpr ⟨xFL_p1_21, List.forall_mem_cons.mpr ⟨xFL_p1_22, List.forall_mem_cons.mpr ⟨xFL_p1_23, List.forall_mem_cons.mpr ⟨xFL_p1_24, List.forall_mem_cons.mpr ⟨xFL_p1_25, List.forall_mem_cons.mpr ⟨xFL_p1_26, List.forall_mem_cons.mpr ⟨xFL_p1_27, List.forall_mem_cons.mpr ⟨xFL_p1_28, List.forall_mem_cons.mpr ⟨xFL_p1_29, List.forall_mem_cons.mpr ⟨xFL_p1_30, List.forall_mem_cons.mpr ⟨xFL_p1_31, List.forall_mem_cons.mpr ⟨xFL_p1_32, List.forall_mem_cons.mpr ⟨xFL_p1_33, List.forall_mem_cons.mpr ⟨xFL_p1_34, List.forall_mem_cons.mpr ⟨xFL_p1_35, List.forall_mem_cons.mpr ⟨xFL_p1_36, List.forall_mem_cons.mpr ⟨xFL_p1_37, List.forall_mem_cons.mpr ⟨xFL_p1_38, List.forall_mem_cons.mpr ⟨xFL_p1_39, fun _ h => absurd h List.not_mem_nil⟩⟩⟩⟩⟩⟩⟩⟩⟩⟩⟩⟩⟩⟩⟩⟩⟩⟩⟩⟩⟩⟩⟩⟩⟩⟩⟩⟩⟩⟩⟩⟩⟩⟩⟩⟩⟩⟩⟩⟩
set_option maxRecDepth 100000 in
theorem xFL_p2_0 : xm_fq (6, 39, 7, 3, 0) := ⟨_, _, rfl, by decide, by decide, rfl, rfl, xh1 (i := 159) rfl rfl⟩
set_option maxRecDepth 100000 in
theorem xFL_p2_1 : xm_fq (6, 42, 7, 5, 0) := ⟨_, _, rfl, by decide, by decide, rfl, rfl, xh1 (i := 166) rfl rfl⟩
set_option maxRecDepth 100000 in
theorem xFL_p2_2 : xm_fq (6, 45, 7, 7, 0) := ⟨_, _, rfl, by decide, by decide, rfl, rfl, xh1 (i := 174) rfl rfl⟩
set_option maxRecDepth 100000 in
theorem xFL_p2_3 : xm_fq (6, 48, 7, 8, 0) := ⟨_, _, rfl, by decide, by decide, rfl, rfl, xh1 (i := 179) rfl rfl⟩
set_option maxRecDepth 100000 in
theorem xFL_p2_4 : xm_fq (7, 9, 8, 4, 6) := ⟨_, _, rfl, by decide, by decide, rfl, rfl, xh2 (i := 7) rfl rfl⟩
set_option maxRecDepth 100000 in
theorem xFL_p2_5 : xm_fq (7, 15, 8, 5, 6) := ⟨_, _, rfl, by decide, by decide, rfl, rfl, xh2 (i := 10) rfl rfl⟩
set_option maxRecDepth 100000 in
theorem xFL_p2_6 : xm_fq (7, 18, 8, 6, 6) := ⟨_, _, rfl, by decide, by decide, rfl, rfl, xh2 (i := 13) rfl rfl⟩
set_option maxRecDepth 100000 in
theorem xFL_p2_7 : xm_fq (7, 21, 8, 7, 6) := ⟨_, _, rfl, by decide, by decide, rfl, rfl, xh2 (i := 16) rfl rfl⟩
set_option maxRecDepth 100000 in
theorem xFL_p2_8 : xm_fq (7, 24, 8, 8, 6) := ⟨_, _, rfl, by decide, by decide, rfl, rfl, xh2 (i := 19) rfl rfl⟩
set_option maxRecDepth 100000 in
theorem xFL_p2_9 : xm_fq (7, 27, 8, 9, 6) := ⟨_, _, rfl, by decide, by decide, rfl, rfl, xh2 (i := 22) rfl rfl⟩
set_option maxRecDepth 100000 in
theorem xFL_p2_10 : xm_fq (7, 30, 8, 10, 6) := ⟨_, _, rfl, by decide, by decide, rfl, rfl, xh2 (i := 25) rfl rfl⟩
set_option maxRecDepth 100000 in
theorem xFL_p2_11 : xm_fq (7, 34, 8, 0, 0) := ⟨_, _, rfl, by decide, by decide, rfl, rfl, xh1 (i := 237) rfl rfl⟩
set_option maxRecDepth 100000 in
theorem xFL_p2_12 : xm_fq (7, 38, 8, 2, 0) := ⟨_, _, rfl, by decide, by decide, rfl, rfl, xh2 (i := 2) rfl rfl⟩
set_option maxRecDepth 100000 in
theorem xFL_p2_13 : xm_fq (7, 41, 8, 3, 0) := ⟨_, _, rfl, by decide, by decide, rfl, rfl, xh2 (i := 5) rfl rfl⟩
set_option maxRecDepth 100000 in
theorem xFL_p2_14 : xm_fq (7, 44, 7, 5, 0) := ⟨_, _, rfl, by decide, by decide, rfl, rfl, xh1 (i := 165) rfl rfl⟩
set_option maxRecDepth 100000 in
theorem xFL_p2_15 : xm_fq (7, 49, 7, 4, 6) := ⟨_, _, rfl, by decide, by decide, rfl, rfl, xh1 (i := 163) rfl rfl⟩
set_option maxRecDepth 100000 in
theorem xFL_p2_16 : xm_fq (7, 53, 9, 1, 0) := ⟨_, _, rfl, by decide, by decide, rfl, rfl, xh1 (i := 95) rfl rfl⟩
set_option maxRecDepth 100000 in
theorem xFL_p2_17 : xm_fq (7, 58, 7, 7, 0) := ⟨_, _, rfl, by decide, by decide, rfl, rfl, xh1 (i := 175) rfl rfl⟩
set_option maxRecDepth 100000 in
theorem xFL_p2_18 : xm_fq (7, 61, 7, 6, 6) := ⟨_, _, rfl, by decide, by decide, rfl, rfl, xh1 (i := 170) rfl rfl⟩
set_option maxRecDepth 100000 in
theorem xFL_p2_19 : xm_fq (7, 65, 1, 1, 0) := ⟨_, _, rfl, by decide, by decide, rfl, rfl, xh1 (i := 115) rfl rfl⟩
set_option maxRecDepth 100000 in
theorem xFL_p2_20 : xm_fq (7, 70, 1, 2, 0) := ⟨_, _, rfl, by decide, by decide, rfl, rfl, xh1 (i := 117) rfl rfl⟩
set_option maxRecDepth 100000 in
theorem xFL_p2_21 : xm_fq (7, 73, 1, 6, 0) := ⟨_, _, rfl, by decide, by decide, rfl, rfl, xh1 (i := 125) rfl rfl⟩
set_option maxRecDepth 100000 in
theorem xFL_p2_22 : xm_fq (7, 79, 8, 1, 0) := ⟨_, _, rfl, by decide, by decide, rfl, rfl, xh2 (i := 0) rfl rfl⟩
set_option maxRecDepth 100000 in
theorem xFL_p2_23 : xm_fq (8, 9, 9, 0, 6) := ⟨_, _, rfl, by decide, by decide, rfl, rfl, xh1 (i := 93) rfl rfl⟩
set_option maxRecDepth 100000 in
theorem xFL_p2_24 : xm_fq (9, 9, 10, 0, 6) := ⟨_, _, rfl, by decide, by decide, rfl, rfl, xh1 (i := 52) rfl rfl⟩
set_option maxRecDepth 100000 in
theorem xFL_p2_25 : xm_fq (9, 15, 10, 1, 0) := ⟨_, _, rfl, by decide, by decide, rfl, rfl, xh1 (i := 53) rfl rfl⟩
set_option maxRecDepth 100000 in
theorem xFL_p2_26 : xm_fq (9, 25, 10, 2, 0) := ⟨_, _, rfl, by decide, by decide, rfl, rfl, xh1 (i := 55) rfl rfl⟩
set_option maxRecDepth 100000 in
theorem xFL_p2_27 : xm_fq (9, 28, 10, 3, 0) := ⟨_, _, rfl, by decide, by decide, rfl, rfl, xh1 (i := 56) rfl rfl⟩
set_option maxRecDepth 100000 in
theorem xFL_p2_28 : xm_fq (9, 34, 10, 5, 0) := ⟨_, _, rfl, by decide, by decide, rfl, rfl, xh1 (i := 59) rfl rfl⟩
set_option maxRecDepth 100000 in
theorem xFL_p2_29 : xm_fq (9, 41, 10, 4, 0) := ⟨_, _, rfl, by decide, by decide, rfl, rfl, xh1 (i := 58) rfl rfl⟩
set_option maxRecDepth 100000 in
theorem xFL_p2_30 : xm_fq (9, 47, 10, 6, 0) := ⟨_, _, rfl, by decide, by decide, rfl, rfl, xh1 (i := 61) rfl rfl⟩
set_option maxRecDepth 100000 in
theorem xFL_p2_31 : xm_fq (10, 10, 0, 0, 6) := ⟨_, _, rfl, by decide, by decide, rfl, rfl, xh2 (i := 211) rfl rfl⟩
set_option maxRecDepth 100000 in
theorem xFL_p2_32 : xm_fq (10, 19, 0, 1, 6) := ⟨_, _, rfl, by decide, by decide, rfl, rfl, xh2 (i := 212) rfl rfl⟩
set_option maxRecDepth 100000 in
theorem xFL_p2_33 : xm_fq (10, 26, 0, 2, 6) := ⟨_, _, rfl, by decide, by decide, rfl, rfl, xh2 (i := 213) rfl rfl⟩
set_option maxRecDepth 100000 in
theorem xFL_p2_34 : xm_fq (10, 33, 0, 3, 6) := ⟨_, _, rfl, by decide, by decide, rfl, rfl, xh2 (i := 214) rfl rfl⟩
set_option maxRecDepth 100000 in
theorem xFL_p2_35 : xm_fq (10, 40, 0, 4, 6) := ⟨_, _, rfl, by decide, by decide, rfl, rfl, xh2 (i := 215) rfl rfl⟩
set_option maxRecDepth 100000 in
theorem xFL_p2_36 : xm_fq (10, 47, 0, 5, 6) := ⟨_, _, rfl, by decide, by decide, rfl, rfl, xh2 (i := 216) rfl rfl⟩
set_option maxRecDepth 100000 in
theorem xFL_p2_37 : xm_fq (10, 51, 6, 0, 6) := ⟨_, _, rfl, by decide, by decide, rfl, rfl, xh1 (i := 201) rfl rfl⟩
set_option maxRecDepth 100000 in
theorem xFL_p2_38 : xm_fq (10, 55, 10, 1, 0) := ⟨_, _, rfl, by decide, by decide, rfl, rfl, xh1 (i := 54) rfl rfl⟩
set_option maxRecDepth 100000 in
theorem xFL_p2_39 : xm_fq (10, 73, 6, 3, 6) := ⟨_, _, rfl, by decide, by decide, rfl, rfl, xh1 (i := 205) rfl rfl⟩
def xFL_2 : List (Nat × Nat × Nat × Nat × Nat) := [(6, 39, 7, 3, 0), (6, 42, 7, 5, 0), (6, 45, 7, 7, 0), (6, 48, 7, 8, 0), (7, 9, 8, 4, 6), (7, 15, 8, 5, 6), (7, 18, 8, 6, 6), (7, 21, 8, 7, 6), (7, 24, 8, 8, 6), (7, 27, 8, 9, 6), (7, 30, 8, 10, 6), (7, 34, 8, 0, 0), (7, 38, 8, 2, 0), (7, 41, 8, 3, 0), (7, 44, 7, 5, 0), (7, 49, 7, 4, 6), (7, 53, 9, 1, 0), (7, 58, 7, 7, 0), (7, 61, 7, 6, 6), (7, 65, 1, 1, 0), (7, 70, 1, 2, 0), (7, 73, 1, 6, 0), (7, 79, 8, 1, 0), (8, 9, 9, 0, 6), (9, 9, 10, 0, 6), (9, 15, 10, 1, 0), (9, 25, 10, 2, 0), (9, 28, 10, 3, 0), (9, 34, 10, 5, 0), (9, 41, 10, 4, 0), (9, 47, 10, 6, 0), (10, 10, 0, 0, 6), (10, 19, 0, 1, 6), (10, 26, 0, 2, 6), (10, 33, 0, 3, 6), (10, 40, 0, 4, 6), (10, 47, 0, 5, 6), (10, 51, 6, 0, 6), (10, 55, 10, 1, 0), (10, 73, 6, 3, 6)]
theorem xFL_ok2 : ∀ q ∈ xFL_2, xm_fq q := List.forall_mem_cons.mpr ⟨xFL_p2_0, List.forall_mem_cons.mpr ⟨xFL_p2_1, List.forall_mem_cons.mpr ⟨xFL_p2_2, List.forall_mem_cons.mpr ⟨xFL_p2_3, List.forall_mem_cons.mpr ⟨xFL_p2_4, List.forall_mem_cons.mpr ⟨xFL_p2_5, List.forall_mem_cons.mpr ⟨xFL_p2_6, List.forall_mem_cons.mpr ⟨xFL_p2_7, List.forall_mem_cons.mpr ⟨xFL_p2_8, List.forall_mem_cons.mpr ⟨xFL_p2_9, List.forall_mem_cons.mpr ⟨xFL_p2_10, List.forall_mem_cons.mpr ⟨xFL_p2_11, List.forall_mem_cons.mpr ⟨xFL_p2_12, List.forall_mem_cons.mpr ⟨xFL_p2_13, List.forall_mem_cons.mpr ⟨xFL_p2_14, List.forall_mem_cons.mpr ⟨xFL_p2_15, List.forall_mem_cons.mpr ⟨xFL_p2_16, List.forall_mem_cons.mpr ⟨xFL_p2_17, List.forall_mem_cons.mpr ⟨xFL_p2_18, List.forall_mem_cons.mpr ⟨xFL_p2_19, List.forall_mem_cons.mpr ⟨xFL_p2_20, List.forall_mem_cons.mpr ⟨xFL_p2_21, List.forall_mem_cons.mpr ⟨xFL_p2_22, List.forall_mem_cons.mpr ⟨xFL_p2_23, List.forall_mem_cons.mpr ⟨xFL_p2_24, List.forall_mem_cons.mpr ⟨xFL_p2_25, List.forall_mem_cons.mpr ⟨xFL_p2_26, List.forall_mem_cons.mpr ⟨xFL_p2_27, List.forall_mem_cons.mpr ⟨xFL_p2_28, List.forall_mem_cons.mpr ⟨xFL_p2_29, List.forall_mem_cons.mpr ⟨xFL_p2_30, List.forall_mem_cons.mpr ⟨xFL_p2_31, List.forall_mem_cons.mpr ⟨xFL_p2_32, List.forall_mem_cons.mpr ⟨xFL_p2_33, List.forall_mem_cons.mpr ⟨xFL_p2_34, List.forall_mem_cons.mpr ⟨xFL_p2_35, List.forall_mem_cons.mpr ⟨xFL_p2_36, List.forall_mem_cons.mpr ⟨xFL_p2_37, List.forall_mem_cons.mpr ⟨xFL_p2_38, List.forall_mem_cons.mpr ⟨xFL_p2_39, fun _ h => absurd h List.not_mem_nil⟩⟩⟩⟩⟩⟩⟩⟩⟩⟩⟩⟩⟩⟩⟩⟩⟩⟩⟩⟩⟩⟩⟩⟩⟩⟩⟩⟩⟩⟩⟩⟩⟩⟩⟩⟩⟩⟩⟩⟩
set_option maxRecDepth 100000 in
theorem xFL_p3_0 : xm_fq (10, 84, 3, 0, 6) := ⟨_, _, rfl, by decide, by decide, rfl, rfl, xh2 (i := 93) rfl rfl⟩
set_option maxRecDepth 100000 in
theorem xFL_p3_1 : xm_fq (10, 87, 7, 7, 0) := ⟨_, _, rfl, by decide, by decide, rfl, rfl, xh1 (i := 176) rfl rfl⟩
set_option maxRecDepth 100000 in
theorem xFL_p3_2 : xm_fq (10, 92, 6, 4, 0) := ⟨_, _, rfl, by decide, by decide, rfl, rfl, xh1 (i := 207) rfl rfl⟩
set_option maxRecDepth 100000 in
theorem xFL_p3_3 : xm_fq (10, 95, 6, 5, 0) := ⟨_, _, rfl, by decide, by decide, rfl, rfl, xh1 (i := 209) rfl rfl⟩
set_option maxRecDepth 100000 in
theorem xFL_p3_4 : xm_fq (10, 98, 7, 5, 0) := ⟨_, _, rfl, by decide, by decide, rfl, rfl, xh1 (i := 168) rfl rfl⟩
set_option maxRecDepth 100000 in
theorem xFL_p3_5 : xm_fq (10, 101, 7, 3, 0) := ⟨_, _, rfl, by decide, by decide, rfl, rfl, xh1 (i := 161) rfl rfl⟩
set_option maxRecDepth 100000 in
theorem xFL_p3_6 : xm_fq (10, 107, 3, 1, 6) := ⟨_, _, rfl, by decide, by decide, rfl, rfl, xh2 (i := 95) rfl rfl⟩
set_option maxRecDepth 100000 in
theorem xFL_p3_7 : xm_fq (10, 110, 8, 4, 6) := ⟨_, _, rfl, by decide, by decide, rfl, rfl, xh2 (i := 8) rfl rfl⟩
set_option maxRecDepth 100000 in
theorem xFL_p3_8 : xm_fq (10, 117, 8, 5, 6) := ⟨_, _, rfl, by decide, by decide, rfl, rfl, xh2 (i := 12) rfl rfl⟩
set_option maxRecDepth 100000 in
theorem xFL_p3_9 : xm_fq (10, 124, 8, 9, 6) := ⟨_, _, rfl, by decide, by decide, rfl, rfl, xh2 (i := 24) rfl rfl⟩
set_option maxRecDepth 100000 in
theorem xFL_p3_10 : xm_fq (10, 127, 8, 6, 6) := ⟨_, _, rfl, by decide, by decide, rfl, rfl, xh2 (i := 15) rfl rfl⟩
set_option maxRecDepth 100000 in
theorem xFL_p3_11 : xm_fq (10, 130, 8, 8, 6) := ⟨_, _, rfl, by decide, by decide, rfl, rfl, xh2 (i := 21) rfl rfl⟩
set_option maxRecDepth 100000 in
theorem xFL_p3_12 : xm_fq (10, 136, 8, 7, 6) := ⟨_, _, rfl, by decide, by decide, rfl, rfl, xh2 (i := 18) rfl rfl⟩
set_option maxRecDepth 100000 in
theorem xFL_p3_13 : xm_fq (10, 139, 8, 0, 0) := ⟨_, _, rfl, by decide, by decide, rfl, rfl, xh1 (i := 239) rfl rfl⟩
set_option maxRecDepth 100000 in
theorem xFL_p3_14 : xm_fq (10, 162, 3, 6, 0) := ⟨_, _, rfl, by decide, by decide, rfl, rfl, xh2 (i := 104) rfl rfl⟩
set_option maxRecDepth 100000 in
theorem xFL_p3_15 : xm_fq (10, 165, 3, 5, 6) := ⟨_, _, rfl, by decide, by decide, rfl, rfl, xh2 (i := 102) rfl rfl⟩
set_option maxRecDepth 100000 in
theorem xFL_p3_16 : xm_fq (10, 175, 3, 9, 0) := ⟨_, _, rfl, by decide, by decide, rfl, rfl, xh2 (i := 110) rfl rfl⟩
set_option maxRecDepth 100000 in
theorem xFL_p3_17 : xm_fq (10, 178, 3, 7, 6) := ⟨_, _, rfl, by decide, by decide, rfl, rfl, xh2 (i := 106) rfl rfl⟩
set_option maxRecDepth 100000 in
theorem xFL_p3_18 : xm_fq (10, 181, 3, 8, 6) := ⟨_, _, rfl, by decide, by decide, rfl, rfl, xh2 (i := 108) rfl rfl⟩
set_option maxRecDepth 100000 in
theorem xFL_p3_19 : xm_fq (10, 201, 3, 2, 6) := ⟨_, _, rfl, by decide, by decide, rfl, rfl, xh2 (i := 97) rfl rfl⟩
set_option maxRecDepth 100000 in
theorem xFL_p3_20 : xm_fq (10, 205, 8, 2, 0) := ⟨_, _, rfl, by decide, by decide, rfl, rfl, xh2 (i := 4) rfl rfl⟩
set_option maxRecDepth 100000 in
theorem xFL_p3_21 : xm_fq (10, 236, 8, 3, 0) := ⟨_, _, rfl, by decide, by decide, rfl, rfl, xh2 (i := 6) rfl rfl⟩
set_option maxRecDepth 100000 in
theorem xFL_p3_22 : xm_fq (10, 247, 2, 2, 6) := ⟨_, _, rfl, by decide, by decide, rfl, rfl, xh2 (i := 144) rfl rfl⟩
set_option maxRecDepth 100000 in
theorem xFL_p3_23 : xm_fq (10, 250, 7, 1, 0) := ⟨_, _, rfl, by decide, by decide, rfl, rfl, xh1 (i := 155) rfl rfl⟩
set_option maxRecDepth 100000 in
theorem xFL_p3_24 : xm_fq (10, 253, 5, 1, 6) := ⟨_, _, rfl, by decide, by decide, rfl, rfl, xh2 (i := 71) rfl rfl⟩
set_option maxRecDepth 100000 in
theorem xFL_p3_25 : xm_fq (10, 256, 5, 0, 6) := ⟨_, _, rfl, by decide, by decide, rfl, rfl, xh2 (i := 68) rfl rfl⟩
set_option maxRecDepth 100000 in
theorem xFL_p3_26 : xm_fq (10, 259, 5, 2, 6) := ⟨_, _, rfl, by decide, by decide, rfl, rfl, xh2 (i := 74) rfl rfl⟩
set_option maxRecDepth 100000 in
theorem xFL_p3_27 : xm_fq (10, 265, 8, 10, 6) := ⟨_, _, rfl, by decide, by decide, rfl, rfl, xh2 (i := 27) rfl rfl⟩
set_option maxRecDepth 100000 in
theorem xFL_p3_28 : xm_fq (10, 278, 4, 2, 0) := ⟨_, _, rfl, by decide, by decide, rfl, rfl, xh2 (i := 171) rfl rfl⟩
set_option maxRecDepth 100000 in
theorem xFL_p3_29 : xm_fq (10, 299, 3, 3, 6) := ⟨_, _, rfl, by decide, by decide, rfl, rfl, xh2 (i := 99) rfl rfl⟩
set_option maxRecDepth 100000 in
theorem xFL_p3_30 : xm_fq (10, 305, 5, 3, 6) := ⟨_, _, rfl, by decide, by decide, rfl, rfl, xh2 (i := 77) rfl rfl⟩
set_option maxRecDepth 100000 in
theorem xFL_p3_31 : xm_fq (10, 308, 5, 4, 6) := ⟨_, _, rfl, by decide, by decide, rfl, rfl, xh2 (i := 80) rfl rfl⟩
set_option maxRecDepth 100000 in
theorem xFL_p3_32 : xm_fq (10, 313, 2, 3, 6) := ⟨_, _, rfl, by decide, by decide, rfl, rfl, xh2 (i := 146) rfl rfl⟩
set_option maxRecDepth 100000 in
theorem xFL_p3_33 : xm_fq (10, 316, 2, 0, 6) := ⟨_, _, rfl, by decide, by decide, rfl, rfl, xh2 (i := 141) rfl rfl⟩
set_option maxRecDepth 100000 in
theorem xFL_p3_34 : xm_fq (10, 322, 7, 6, 6) := ⟨_, _, rfl, by decide, by decide, rfl, rfl, xh1 (i := 173) rfl rfl⟩
set_option maxRecDepth 100000 in
theorem xFL_p3_35 : xm_fq (10, 325, 1, 0, 6) := ⟨_, _, rfl, by decide, by decide, rfl, rfl, xh1 (i := 114) rfl rfl⟩
set_option maxRecDepth 100000 in
theorem xFL_p3_36 : xm_fq (11, 7, 11, 0, 6) := ⟨_, _, rfl, by decide, by decide, rfl, rfl, xh7 (i := 115) rfl rfl⟩
set_option maxRecDepth 100000 in
theorem xFL_p3_37 : xm_fq (11, 13, 11, 1, 6) := ⟨_, _, rfl, by decide, by decide, rfl, rfl, xh7 (i := 116) rfl rfl⟩
set_option maxRecDepth 100000 in
theorem xFL_p3_38 : xm_fq (11, 16, 11, 2, 6) := ⟨_, _, rfl, by decide, by decide, rfl, rfl, xh7 (i := 117) rfl rfl⟩
set_option maxRecDepth 100000 in
theorem xFL_p3_39 : xm_fq (11, 19, 11, 5, 6) := ⟨_, _, rfl, by decide, by decide, rfl, rfl, xh7 (i := 120) rfl rfl⟩
def xFL_3 : List (Nat × Nat × Nat × Nat × Nat) := [(10, 84, 3, 0, 6), (10, 87, 7, 7, 0), (10, 92, 6, 4, 0), (10, 95, 6, 5, 0), (10, 98, 7, 5, 0), (10, 101, 7, 3, 0), (10, 107, 3, 1, 6), (10, 110, 8, 4, 6), (10, 117, 8, 5, 6), (10, 124, 8, 9, 6), (10, 127, 8, 6, 6), (10, 130, 8, 8, 6), (10, 136, 8, 7, 6), (10, 139, 8, 0, 0), (10, 162, 3, 6, 0), (10, 165, 3, 5, 6), (10, 175, 3, 9, 0), (10, 178, 3, 7, 6), (10, 181, 3, 8, 6), (10, 201, 3, 2, 6), (10, 205, 8, 2, 0), (10, 236, 8, 3, 0), (10, 247, 2, 2, 6), (10, 250, 7, 1, 0), (10, 253, 5, 1, 6), (10, 256, 5, 0, 6), (10, 259, 5, 2, 6), (10, 265, 8, 10, 6), (10, 278, 4, 2, 0), (10, 299, 3, 3, 6), (10, 305, 5, 3, 6), (10, 308, 5, 4, 6), (10, 313, 2, 3, 6), (10, 316, 2, 0, 6), (10, 322, 7, 6, 6), (10, 325, 1, 0, 6), (11, 7, 11, 0, 6), (11, 13, 11, 1, 6), (11, 16, 11, 2, 6), (11, 19, 11, 5, 6)]
theorem xFL_ok3 : ∀ q ∈ xFL_3, xm_fq q := List.forall_mem_cons.mpr ⟨xFL_p3_0, List.forall_mem_cons.mpr ⟨xFL_p3_1, List.forall_mem_cons.mpr ⟨xFL_p3_2, List.forall_mem_cons.mpr ⟨xFL_p3_3, List.forall_mem_cons.mpr ⟨xFL_p3_4, List.forall_mem_cons.mpr ⟨xFL_p3_5, List.forall_mem_cons.mpr ⟨xFL_p3_6, List.forall_mem_cons.mpr ⟨xFL_p3_7, List.forall_mem_cons.mpr ⟨xFL_p3_8, List.forall_mem_cons.mpr ⟨xFL_p3_9, List.forall_mem_cons.mpr ⟨xFL_p3_10, List.forall_mem_cons.mpr ⟨xFL_p3_11, List.forall_mem_cons.mpr ⟨xFL_p3_12, List.forall_mem_cons.mpr ⟨xFL_p3_13, List.forall_mem_cons.mpr ⟨xFL_p3_14, List.forall_mem_cons.mpr ⟨xFL_p3_15, List.forall_mem_cons.mpr ⟨xFL_p3_16, List.forall_mem_cons.mpr ⟨xFL_p3_17, List.forall_mem_cons.mpr ⟨xFL_p3_18, List.forall_mem_cons.mpr ⟨xFL_p3_19, List.forall_mem_cons.mpr ⟨xFL_p3_20, List.forall_mem_cons.mpr ⟨xFL_p3_21, List.forall_mem_cons.mpr ⟨xFL_p3_22, List.forall_mem_cons.mpr ⟨xFL_p3_23, List.forall_mem_cons.mpr ⟨xFL_p3_24, List.forall_mem_cons.mpr ⟨xFL_p3_25, List.forall_mem_cons.mpr ⟨xFL_p3_26, List.forall_mem_cons.mpr ⟨xFL_p3_27, List.forall_mem_cons.mpr ⟨xFL_p3_28, List.forall_mem_cons.mpr ⟨xFL_p3_29, List.forall_mem_cons.mpr ⟨xFL_p3_30, List.forall_mem_cons.mpr ⟨xFL_p3_31, List.forall_mem_cons.mpr ⟨xFL_p3_32, List.forall_mem_cons.mpr ⟨xFL_p3_33, List.forall_mem_cons.mpr ⟨xFL_p3_34, List.forall_mem_cons.mpr ⟨xFL_p3_35, List.forall_mem_cons.mpr ⟨xFL_p3_36, List.forall_mem_cons.mpr ⟨xFL_p3_37, List.forall_mem_cons.mpr ⟨xFL_p3_38, List.forall_mem_cons.mpr ⟨xFL_p3_39, fun _ h => absurd h List.not_mem_nil⟩⟩⟩⟩⟩⟩⟩⟩⟩⟩⟩⟩⟩⟩⟩⟩⟩⟩⟩⟩⟩⟩⟩⟩⟩⟩⟩⟩⟩⟩⟩⟩⟩⟩⟩⟩⟩⟩⟩⟩
set_option maxRecDepth 100000 in
theorem xFL_p4_0 : xm_fq (11, 22, 11, 8, 0) := ⟨_, _, rfl, by decide, by decide, rfl, rfl, xh7 (i := 123) rfl rfl⟩
set_option maxRecDepth 100000 in
theorem xFL_p4_1 : xm_fq (11, 26, 11, 18, 6) := ⟨_, _, rfl, by decide, by decide, rfl, rfl, xh7 (i := 133) rfl rfl⟩
set_option maxRecDepth 100000 in
theorem xFL_p4_2 : xm_fq (11, 29, 11, 19, 6) := ⟨_, _, rfl, by decide, by decide, rfl, rfl, xh7 (i := 134) rfl rfl⟩
set_option maxRecDepth 100000 in
theorem xFL_p4_3 : xm_fq (11, 32, 11, 20, 6) := ⟨_, _, rfl, by decide, by decide, rfl, rfl, xh7 (i := 135) rfl rfl⟩
set_option maxRecDepth 100000 in
theorem xFL_p4_4 : xm_fq (11, 36, 11, 21, 6) := ⟨_, _, rfl, by decide, by decide, rfl, rfl, xh7 (i := 136) rfl rfl⟩
set_option maxRecDepth 100000 in
theorem xFL_p4_5 : xm_fq (11, 39, 11, 22, 6) := ⟨_, _, rfl, by decide, by decide, rfl, rfl, xh7 (i := 137) rfl rfl⟩
set_option maxRecDepth 100000 in
theorem xFL_p4_6 : xm_fq (11, 42, 11, 24, 6) := ⟨_, _, rfl, by decide, by decide, rfl, rfl, xh7 (i := 139) rfl rfl⟩
set_option maxRecDepth 100000 in
theorem xFL_p4_7 : xm_fq (11, 45, 11, 25, 6) := ⟨_, _, rfl, by decide, by decide, rfl, rfl, xh7 (i := 140) rfl rfl⟩
set_option maxRecDepth 100000 in
theorem xFL_p4_8 : xm_fq (11, 48, 11, 26, 6) := ⟨_, _, rfl, by decide, by decide, rfl, rfl, xh7 (i := 141) rfl rfl⟩
set_option maxRecDepth 100000 in
theorem xFL_p4_9 : xm_fq (11, 51, 11, 29, 6) := ⟨_, _, rfl, by decide, by decide, rfl, rfl, xh7 (i := 144) rfl rfl⟩
set_option maxRecDepth 100000 in
theorem xFL_p4_10 : xm_fq (11, 60, 11, 4, 0) := ⟨_, _, rfl, by decide, by decide, rfl, rfl, xh7 (i := 119) rfl rfl⟩
set_option maxRecDepth 100000 in
theorem xFL_p4_11 : xm_fq (11, 63, 11, 3, 0) := ⟨_, _, rfl, by decide, by decide, rfl, rfl, xh7 (i := 118) rfl rfl⟩
set_option maxRecDepth 100000 in
theorem xFL_p4_12 : xm_fq (11, 66, 11, 6, 0) := ⟨_, _, rfl, by decide, by decide, rfl, rfl, xh7 (i := 121) rfl rfl⟩
set_option maxRecDepth 100000 in
theorem xFL_p4_13 : xm_fq (11, 73, 11, 9, 0) := ⟨_, _, rfl, by decide, by decide, rfl, rfl, xh7 (i := 124) rfl rfl⟩
set_option maxRecDepth 100000 in
theorem xFL_p4_14 : xm_fq (11, 76, 11, 11, 0) := ⟨_, _, rfl, by decide, by decide, rfl, rfl, xh7 (i := 126) rfl rfl⟩
set_option maxRecDepth 100000 in
theorem xFL_p4_15 : xm_fq (11, 83, 11, 10, 0) := ⟨_, _, rfl, by decide, by decide, rfl, rfl, xh7 (i := 125) rfl rfl⟩
set_option maxRecDepth 100000 in
theorem xFL_p4_16 : xm_fq (11, 86, 11, 16, 4) := ⟨_, _, rfl, by decide, by decide, rfl, rfl, xh7 (i := 131) rfl rfl⟩
set_option maxRecDepth 100000 in
theorem xFL_p4_17 : xm_fq (11, 90, 11, 12, 0) := ⟨_, _, rfl, by decide, by decide, rfl, rfl, xh7 (i := 127) rfl rfl⟩
set_option maxRecDepth 100000 in
theorem xFL_p4_18 : xm_fq (11, 104, 11, 13, 0) := ⟨_, _, rfl, by decide, by decide, rfl, rfl, xh7 (i := 128) rfl rfl⟩
set_option maxRecDepth 100000 in
theorem xFL_p4_19 : xm_fq (11, 116, 11, 14, 0) := ⟨_, _, rfl, by decide, by decide, rfl, rfl, xh7 (i := 129) rfl rfl⟩
set_option maxRecDepth 100000 in
theorem xFL_p4_20 : xm_fq (11, 119, 11, 15, 0) := ⟨_, _, rfl, by decide, by decide, rfl, rfl, xh7 (i := 130) rfl rfl⟩
set_option maxRecDepth 100000 in
theorem xFL_p4_21 : xm_fq (11, 129, 11, 17, 0) := ⟨_, _, rfl, by decide, by decide, rfl, rfl, xh7 (i := 132) rfl rfl⟩
set_option maxRecDepth 100000 in
theorem xFL_p4_22 : xm_fq (11, 165, 11, 23, 0) := ⟨_, _, rfl, by decide, by decide, rfl, rfl, xh7 (i := 138) rfl rfl⟩
set_option maxRecDepth 100000 in
theorem xFL_p4_23 : xm_fq (11, 215, 11, 7, 0) := ⟨_, _, rfl, by decide, by decide, rfl, rfl, xh7 (i := 122) rfl rfl⟩
set_option maxRecDepth 100000 in
theorem xFL_p4_24 : xm_fq (11, 252, 11, 27, 0) := ⟨_, _, rfl, by decide, by decide, rfl, rfl, xh7 (i := 142) rfl rfl⟩
set_option maxRecDepth 100000 in
theorem xFL_p4_25 : xm_fq (11, 255, 11, 28, 0) := ⟨_, _, rfl, by decide, by decide, rfl, rfl, xh7 (i := 143) rfl rfl⟩
set_option maxRecDepth 100000 in
theorem xFL_p4_26 : xm_fq (11, 374, 11, 30, 0) := ⟨_, _, rfl, by decide, by decide, rfl, rfl, xh7 (i := 145) rfl rfl⟩
set_option maxRecDepth 100000 in
theorem xFL_p4_27 : xm_fq (12, 15, 13, 0, 6) := ⟨_, _, rfl, by decide, by decide, rfl, rfl, xh2 (i := 197) rfl rfl⟩
set_option maxRecDepth 100000 in
theorem xFL_p4_28 : xm_fq (12, 22, 13, 1, 2) := ⟨_, _, rfl, by decide, by decide, rfl, rfl, xh2 (i := 198) rfl rfl⟩
set_option maxRecDepth 100000 in
theorem xFL_p4_29 : xm_fq (12, 73, 13, 2, 1) := ⟨_, _, rfl, by decide, by decide, rfl, rfl, xh2 (i := 199) rfl rfl⟩
set_option maxRecDepth 100000 in
theorem xFL_p4_30 : xm_fq (12, 79, 13, 3, 0) := ⟨_, _, rfl, by decide, by decide, rfl, rfl, xh2 (i := 201) rfl rfl⟩
set_option maxRecDepth 100000 in
theorem xFL_p4_31 : xm_fq (15, 9, 12, 0, 6) := ⟨_, _, rfl, by decide, by decide, rfl, rfl, xh4 (i := 77) rfl rfl⟩
set_option maxRecDepth 100000 in
theorem xFL_p4_32 : xm_fq (15, 15, 12, 1, 2) := ⟨_, _, rfl, by decide, by decide, rfl, rfl, xh4 (i := 78) rfl rfl⟩
set_option maxRecDepth 100000 in
theorem xFL_p4_33 : xm_fq (15, 1048, 13, 2, 1) := ⟨_, _, rfl, by decide, by decide, rfl, rfl, xh2 (i := 200) rfl rfl⟩
def xFL_4 : List (Nat × Nat × Nat × Nat × Nat) := [(11, 22, 11, 8, 0), (11, 26, 11, 18, 6), (11, 29, 11, 19, 6), (11, 32, 11, 20, 6), (11, 36, 11, 21, 6), (11, 39, 11, 22, 6), (11, 42, 11, 24, 6), (11, 45, 11, 25, 6), (11, 48, 11, 26, 6), (11, 51, 11, 29, 6), (11, 60, 11, 4, 0), (11, 63, 11, 3, 0), (11, 66, 11, 6, 0), (11, 73, 11, 9, 0), (11, 76, 11, 11, 0), (11, 83, 11, 10, 0), (11, 86, 11, 16, 4), (11, 90, 11, 12, 0), (11, 104, 11, 13, 0), (11, 116, 11, 14, 0), (11, 119, 11, 15, 0), (11, 129, 11, 17, 0), (11, 165, 11, 23, 0), (11, 215, 11, 7, 0), (11, 252, 11, 27, 0), (11, 255, 11, 28, 0), (11, 374, 11, 30, 0), (12, 15, 13, 0, 6), (12, 22, 13, 1, 2), (12, 73, 13, 2, 1), (12, 79, 13, 3, 0), (15, 9, 12, 0, 6), (15, 15, 12, 1, 2), (15, 1048, 13, 2, 1)]
theorem xFL_ok4 : ∀ q ∈ xFL_4, xm_fq q := List.forall_mem_cons.mpr ⟨xFL_p4_0, List.forall_mem_cons.mpr ⟨xFL_p4_1, List.forall_mem_cons.mpr ⟨xFL_p4_2, List.forall_mem_cons.mpr ⟨xFL_p4_3, List.forall_mem_cons.mpr ⟨xFL_p4_4, List.forall_mem_cons.mpr ⟨xFL_p4_5, List.forall_mem_cons.mpr ⟨xFL_p4_6, List.forall_mem_cons.mpr ⟨xFL_p4_7, List.forall_mem_cons.mpr ⟨xFL_p4_8, List.forall_mem_cons.mpr ⟨xFL_p4_9, List.forall_mem_cons.mpr ⟨xFL_p4_10, List.forall_mem_cons.mpr ⟨xFL_p4_11, List.forall_mem_cons.mpr ⟨xFL_p4_12, List.forall_mem_cons.mpr ⟨xFL_p4_13, List.forall_mem_cons.mpr ⟨xFL_p4_14, List.forall_mem_cons.mpr ⟨xFL_p4_15, List.forall_mem_cons.mpr ⟨xFL_p4_16, List.forall_mem_cons.mpr ⟨xFL_p4_17, List.forall_mem_cons.mpr ⟨xFL_p4_18, List.forall_mem_cons.mpr ⟨xFL_p4_19, List.forall_mem_cons.mpr ⟨xFL_p4_20, List.forall_mem_cons.mpr ⟨xFL_p4_21, List.forall_mem_cons.mpr ⟨xFL_p4_22, List.forall_mem_cons.mpr ⟨xFL_p4_23, List.forall_mem_cons.mpr ⟨xFL_p4_24, List.forall_mem_cons.mpr ⟨xFL_p4_25, List.forall_mem_cons.mpr ⟨xFL_p4_26, List.forall_mem_cons.mpr ⟨xFL_p4_27, List.forall_mem_cons.mpr ⟨xFL_p4_28, List.forall_mem_cons.mpr ⟨xFL_p4_29, List.forall_mem_cons.mpr ⟨xFL_p4_30, List.forall_mem_cons.mpr ⟨xFL_p4_31, List.forall_mem_cons.mpr ⟨xFL_p4_32, List.forall_mem_cons.mpr ⟨xFL_p4_33, fun _ h => absurd h List.not_mem_nil⟩⟩⟩⟩⟩⟩⟩⟩⟩⟩⟩⟩⟩⟩⟩⟩⟩⟩⟩⟩⟩⟩⟩⟩⟩⟩⟩⟩⟩⟩⟩⟩⟩⟩
def xFL : List (Nat × Nat × Nat × Nat × Nat) := xFL_0 ++ (xFL_1 ++ (xFL_2 ++ (xFL_3 ++ (xFL_4))))
theorem xFL_ok : ∀ q ∈ xFL, xm_fq q := List.forall_mem_append.mpr ⟨xFL_ok0, List.forall_mem_append.mpr ⟨xFL_ok1, List.forall_mem_append.mpr ⟨xFL_ok2, List.forall_mem_append.mpr ⟨xFL_ok3, xFL_ok4⟩⟩⟩⟩
def xm_cq (q : Nat × Nat × String) : Prop := Cond.classLink (xon.getD q.1 "") q.2.1 q.2.2 ∈ xgd
set_option maxRecDepth 100000 in
theorem xCL_p0_0 : xm_cq (2, 9, "AdMarketplace$Rules") := xh1 (i := 229) rfl rfl
set_option maxRecDepth 100000 in
theorem xCL_p0_1 : xm_cq (2, 18, "AdMarketplace$Standing") := xh1 (i := 231) rfl rfl
set_option maxRecDepth 100000 in
theorem xCL_p0_2 : xm_cq (2, 29, "AdMarketplace$Impressions") := xh2 (i := 60) rfl rfl
set_option maxRecDepth 100000 in
theorem xCL_p0_3 : xm_cq (3, 9, "AdMarketplace$Standing") := xh2 (i := 165) rfl rfl
set_option maxRecDepth 100000 in
theorem xCL_p0_4 : xm_cq (5, 9, "AdMarketplace$Tokens") := xh1 (i := 46) rfl rfl
set_option maxRecDepth 100000 in
theorem xCL_p0_5 : xm_cq (5, 18, "AdMarketplace$Rules") := xh1 (i := 79) rfl rfl
set_option maxRecDepth 100000 in
theorem xCL_p0_6 : xm_cq (6, 15, "AdMarketplace$Tag") := xh1 (i := 85) rfl rfl
set_option maxRecDepth 100000 in
theorem xCL_p0_7 : xm_cq (6, 22, "AdMarketplace$Campaign") := xh1 (i := 104) rfl rfl
set_option maxRecDepth 100000 in
theorem xCL_p0_8 : xm_cq (9, 51, "java/lang/String") := xh4 (i := 38) rfl rfl
set_option maxRecDepth 100000 in
theorem xCL_p0_9 : xm_cq (10, 7, "AdMarketplace$Parser") := xh1 (i := 40) rfl rfl
set_option maxRecDepth 100000 in
theorem xCL_p0_10 : xm_cq (10, 16, "AdMarketplace$Exchange") := xh1 (i := 223) rfl rfl
set_option maxRecDepth 100000 in
theorem xCL_p0_11 : xm_cq (10, 23, "AdMarketplace$Standing") := xh2 (i := 132) rfl rfl
set_option maxRecDepth 100000 in
theorem xCL_p0_12 : xm_cq (10, 30, "AdMarketplace$Conversions") := xh2 (i := 134) rfl rfl
set_option maxRecDepth 100000 in
theorem xCL_p0_13 : xm_cq (10, 37, "AdMarketplace$History") := xh2 (i := 159) rfl rfl
set_option maxRecDepth 100000 in
theorem xCL_p0_14 : xm_cq (10, 44, "java/lang/StringBuilder") := xh2 (i := 179) rfl rfl
set_option maxRecDepth 100000 in
theorem xCL_p0_15 : xm_cq (10, 152, "java/lang/IllegalArgumentException") := xh3 (i := 76) rfl rfl
set_option maxRecDepth 100000 in
theorem xCL_p0_16 : xm_cq (10, 226, "java/lang/IllegalStateException") := xh5 (i := 150) rfl rfl
set_option maxRecDepth 100000 in
theorem xCL_p0_17 : xm_cq (10, 284, "java/lang/IndexOutOfBoundsException") := xh4 (i := 138) rfl rfl
set_option maxRecDepth 100000 in
theorem xCL_p0_18 : xm_cq (13, 10, "java/lang/StringBuilder") := xh7 (i := 40) rfl rfl
set_option maxRecDepth 100000 in
theorem xCL_p0_19 : xm_cq (16, 18, "java/lang/String") := xh6 (i := 204) rfl rfl
set_option maxRecDepth 100000 in
theorem xCL_p0_20 : xm_cq (17, 10, "java/lang/StringBuilder") := xh6 (i := 89) rfl rfl
set_option maxRecDepth 100000 in
theorem xCL_p0_21 : xm_cq (20, 45, "java/lang/StringBuilder") := xh6 (i := 235) rfl rfl
set_option maxRecDepth 100000 in
theorem xCL_p0_22 : xm_cq (23, 8, "AdMarketplace") := xh1 (i := 32) rfl rfl
set_option maxRecDepth 100000 in
theorem xCL_p0_23 : xm_cq (23, 13, "java/lang/IllegalArgumentException") := xh3 (i := 68) rfl rfl
set_option maxRecDepth 100000 in
theorem xCL_p0_24 : xm_cq (23, 18, "java/lang/IndexOutOfBoundsException") := xh4 (i := 129) rfl rfl
set_option maxRecDepth 100000 in
theorem xCL_p0_25 : xm_cq (23, 73, "java/lang/IllegalStateException") := xh5 (i := 145) rfl rfl
set_option maxRecDepth 100000 in
theorem xCL_p0_26 : xm_cq (23, 128, "AdMarketplaceModel") := xh7 (i := 97) rfl rfl
def xCL_0 : List (Nat × Nat × String) := [(2, 9, "AdMarketplace$Rules"), (2, 18, "AdMarketplace$Standing"), (2, 29, "AdMarketplace$Impressions"), (3, 9, "AdMarketplace$Standing"), (5, 9, "AdMarketplace$Tokens"), (5, 18, "AdMarketplace$Rules"), (6, 15, "AdMarketplace$Tag"), (6, 22, "AdMarketplace$Campaign"), (9, 51, "java/lang/String"), (10, 7, "AdMarketplace$Parser"), (10, 16, "AdMarketplace$Exchange"), (10, 23, "AdMarketplace$Standing"), (10, 30, "AdMarketplace$Conversions"), (10, 37, "AdMarketplace$History"), (10, 44, "java/lang/StringBuilder"), (10, 152, "java/lang/IllegalArgumentException"), (10, 226, "java/lang/IllegalStateException"), (10, 284, "java/lang/IndexOutOfBoundsException"), (13, 10, "java/lang/StringBuilder"), (16, 18, "java/lang/String"), (17, 10, "java/lang/StringBuilder"), (20, 45, "java/lang/StringBuilder"), (23, 8, "AdMarketplace"), (23, 13, "java/lang/IllegalArgumentException"), (23, 18, "java/lang/IndexOutOfBoundsException"), (23, 73, "java/lang/IllegalStateException"), (23, 128, "AdMarketplaceModel")]
theorem xCL_ok0 : ∀ q ∈ xCL_0, xm_cq q := List.forall_mem_cons.mpr ⟨xCL_p0_0, List.forall_mem_cons.mpr ⟨xCL_p0_1, List.forall_mem_cons.mpr ⟨xCL_p0_2, List.forall_mem_cons.mpr ⟨xCL_p0_3, List.forall_mem_cons.mpr ⟨xCL_p0_4, List.forall_mem_cons.mpr ⟨xCL_p0_5, List.forall_mem_cons.mpr ⟨xCL_p0_6, List.forall_mem_cons.mpr ⟨xCL_p0_7, List.forall_mem_cons.mpr ⟨xCL_p0_8, List.forall_mem_cons.mpr ⟨xCL_p0_9, List.forall_mem_cons.mpr ⟨xCL_p0_10, List.forall_mem_cons.mpr ⟨xCL_p0_11, List.forall_mem_cons.mpr ⟨xCL_p0_12, List.forall_mem_cons.mpr ⟨xCL_p0_13, List.forall_mem_cons.mpr ⟨xCL_p0_14, List.forall_mem_cons.mpr ⟨xCL_p0_15, List.forall_mem_cons.mpr ⟨xCL_p0_16, List.forall_mem_cons.mpr ⟨xCL_p0_17, List.forall_mem_cons.mpr ⟨xCL_p0_18, List.forall_mem_cons.mpr ⟨xCL_p0_19, List.forall_mem_cons.mpr ⟨xCL_p0_20, List.forall_mem_cons.mpr ⟨xCL_p0_21, List.forall_mem_cons.mpr ⟨xCL_p0_22, List.forall_mem_cons.mpr ⟨xCL_p0_23, List.forall_mem_cons.mpr ⟨xCL_p0_24, List.forall_mem_cons.mpr ⟨xCL_p0_25, List.forall_mem_cons.mpr ⟨xCL_p0_26, fun _ h => absurd h List.not_mem_nil⟩⟩⟩⟩⟩⟩⟩⟩⟩⟩⟩⟩⟩⟩⟩⟩⟩⟩⟩⟩⟩⟩⟩⟩⟩⟩⟩
def xCL : List (Nat × Nat × String) := xCL_0
theorem xCL_ok : ∀ q ∈ xCL, xm_cq q := xCL_ok0
/-! callees -/
set_option maxRecDepth 100000 in
theorem xc_0 : xm_cal xX 0 0 xM_X0_init := ⟨rfl, xh1 (i := 109) rfl rfl, xh1 (i := 6) rfl rfl, ⟨by decide, by decide⟩, rfl, by decide⟩
set_option maxRecDepth 100000 in
theorem xc_1 : xm_cal xX 1 0 xM_X1_init := ⟨rfl, xh2 (i := 138) rfl rfl, xh1 (i := 10) rfl rfl, ⟨by decide, by decide⟩, rfl, by decide⟩
set_option maxRecDepth 100000 in
theorem xc_2 : xm_cal xX 2 2 xM_X1_begin := ⟨rfl, xh5 (i := 190) rfl rfl, xh1 (i := 10) rfl rfl, ⟨by decide, by decide⟩, rfl, by decide⟩
set_option maxRecDepth 100000 in
theorem xc_3 : xm_cal xX 3 2 xM_X1_share := ⟨rfl, xh5 (i := 198) rfl rfl, xh1 (i := 10) rfl rfl, ⟨by decide, by decide⟩, rfl, by decide⟩
set_option maxRecDepth 100000 in
theorem xc_4 : xm_cal xX 4 3 xM_X1_creditOf := ⟨rfl, xh6 (i := 68) rfl rfl, xh1 (i := 10) rfl rfl, ⟨by decide, by decide⟩, rfl, by decide⟩
set_option maxRecDepth 100000 in
theorem xc_5 : xm_cal xX 5 0 xM_X2_init := ⟨rfl, xh1 (i := 227) rfl rfl, xh1 (i := 7) rfl rfl, ⟨by decide, by decide⟩, rfl, by decide⟩
set_option maxRecDepth 100000 in
theorem xc_6 : xm_cal xX 6 1 xM_X2_open := ⟨rfl, xh4 (i := 121) rfl rfl, xh1 (i := 7) rfl rfl, ⟨by decide, by decide⟩, rfl, by decide⟩
set_option maxRecDepth 100000 in
theorem xc_7 : xm_cal xX 7 1 xM_X2_pacedBid := ⟨rfl, xh4 (i := 176) rfl rfl, xh1 (i := 7) rfl rfl, ⟨by decide, by decide⟩, rfl, by decide⟩
set_option maxRecDepth 100000 in
theorem xc_8 : xm_cal xX 8 2 xM_X2_perCent := ⟨rfl, xh4 (i := 179) rfl rfl, xh1 (i := 7) rfl rfl, ⟨by decide, by decide⟩, rfl, by decide⟩
set_option maxRecDepth 100000 in
theorem xc_9 : xm_cal xX 9 1 xM_X2_planned := ⟨rfl, xh4 (i := 211) rfl rfl, xh1 (i := 7) rfl rfl, ⟨by decide, by decide⟩, rfl, by decide⟩
set_option maxRecDepth 100000 in
theorem xc_10 : xm_cal xX 10 1 xM_X2_moneyLeft := ⟨rfl, xh5 (i := 0) rfl rfl, xh1 (i := 7) rfl rfl, ⟨by decide, by decide⟩, rfl, by decide⟩
set_option maxRecDepth 100000 in
theorem xc_11 : xm_cal xX 11 0 xM_X2_passTick := ⟨rfl, xh5 (i := 113) rfl rfl, xh1 (i := 7) rfl rfl, ⟨by decide, by decide⟩, rfl, by decide⟩
set_option maxRecDepth 100000 in
theorem xc_12 : xm_cal xX 12 1 xM_X2_control := ⟨rfl, xh5 (i := 117) rfl rfl, xh1 (i := 7) rfl rfl, ⟨by decide, by decide⟩, rfl, by decide⟩
set_option maxRecDepth 100000 in
theorem xc_13 : xm_cal xX 13 1 xM_X2_countRecents := ⟨rfl, xh4 (i := 232) rfl rfl, xh1 (i := 7) rfl rfl, ⟨by decide, by decide⟩, rfl, by decide⟩
set_option maxRecDepth 100000 in
theorem xc_14 : xm_cal xX 14 4 xM_X2_reasonAgainst := ⟨rfl, xh4 (i := 236) rfl rfl, xh1 (i := 7) rfl rfl, ⟨by decide, by decide⟩, rfl, by decide⟩
set_option maxRecDepth 100000 in
theorem xc_15 : xm_cal xX 15 3 xM_X2_rank := ⟨rfl, xh5 (i := 13) rfl rfl, xh1 (i := 7) rfl rfl, ⟨by decide, by decide⟩, rfl, by decide⟩
set_option maxRecDepth 100000 in
theorem xc_16 : xm_cal xX 16 1 xM_X2_insert := ⟨rfl, xh5 (i := 20) rfl rfl, xh1 (i := 7) rfl rfl, ⟨by decide, by decide⟩, rfl, by decide⟩
set_option maxRecDepth 100000 in
theorem xc_17 : xm_cal xX 17 2 xM_X2_fill := ⟨rfl, xh5 (i := 35) rfl rfl, xh1 (i := 7) rfl rfl, ⟨by decide, by decide⟩, rfl, by decide⟩
set_option maxRecDepth 100000 in
theorem xc_18 : xm_cal xX 18 2 xM_X2_basePrice := ⟨rfl, xh5 (i := 39) rfl rfl, xh1 (i := 7) rfl rfl, ⟨by decide, by decide⟩, rfl, by decide⟩
set_option maxRecDepth 100000 in
theorem xc_19 : xm_cal xX 19 3 xM_X2_serve := ⟨rfl, xh5 (i := 105) rfl rfl, xh1 (i := 7) rfl rfl, ⟨by decide, by decide⟩, rfl, by decide⟩
set_option maxRecDepth 100000 in
theorem xc_20 : xm_cal xX 20 2 xM_X2_record := ⟨rfl, xh5 (i := 109) rfl rfl, xh1 (i := 7) rfl rfl, ⟨by decide, by decide⟩, rfl, by decide⟩
set_option maxRecDepth 100000 in
theorem xc_21 : xm_cal xX 21 4 xM_X2_leastWinningBid := ⟨rfl, xh5 (i := 64) rfl rfl, xh1 (i := 7) rfl rfl, ⟨by decide, by decide⟩, rfl, by decide⟩
set_option maxRecDepth 100000 in
theorem xc_22 : xm_cal xX 22 2 xM_X2_leastPacedBid := ⟨rfl, xh5 (i := 69) rfl rfl, xh1 (i := 7) rfl rfl, ⟨by decide, by decide⟩, rfl, by decide⟩
set_option maxRecDepth 100000 in
theorem xc_23 : xm_cal xX 23 3 xM_X2_mostEarningFloor := ⟨rfl, xh5 (i := 80) rfl rfl, xh1 (i := 7) rfl rfl, ⟨by decide, by decide⟩, rfl, by decide⟩
set_option maxRecDepth 100000 in
theorem xc_24 : xm_cal xX 24 3 xM_X2_leastFloorEarning := ⟨rfl, xh5 (i := 89) rfl rfl, xh1 (i := 7) rfl rfl, ⟨by decide, by decide⟩, rfl, by decide⟩
set_option maxRecDepth 100000 in
theorem xc_25 : xm_cal xX 25 2 xM_X2_earningsAt := ⟨rfl, xh5 (i := 84) rfl rfl, xh1 (i := 7) rfl rfl, ⟨by decide, by decide⟩, rfl, by decide⟩
set_option maxRecDepth 100000 in
theorem xc_26 : xm_cal xX 26 0 xM_X3_init := ⟨rfl, xh2 (i := 163) rfl rfl, xh1 (i := 11) rfl rfl, ⟨by decide, by decide⟩, rfl, by decide⟩
set_option maxRecDepth 100000 in
theorem xc_27 : xm_cal xX 27 1 xM_X3_remember := ⟨rfl, xh5 (i := 169) rfl rfl, xh1 (i := 11) rfl rfl, ⟨by decide, by decide⟩, rfl, by decide⟩
set_option maxRecDepth 100000 in
theorem xc_28 : xm_cal xX 28 1 xM_X3_restore := ⟨rfl, xh3 (i := 29) rfl rfl, xh1 (i := 11) rfl rfl, ⟨by decide, by decide⟩, rfl, by decide⟩
set_option maxRecDepth 100000 in
theorem xc_29 : xm_cal xX 29 0 xM_X3_forget := ⟨rfl, xh4 (i := 125) rfl rfl, xh1 (i := 11) rfl rfl, ⟨by decide, by decide⟩, rfl, by decide⟩
set_option maxRecDepth 100000 in
theorem xc_30 : xm_cal xX 30 0 xM_X4_init := ⟨rfl, xh2 (i := 64) rfl rfl, xh1 (i := 9) rfl rfl, ⟨by decide, by decide⟩, rfl, by decide⟩
set_option maxRecDepth 100000 in
theorem xc_31 : xm_cal xX 31 2 xM_X4_part := ⟨rfl, xh6 (i := 16) rfl rfl, xh1 (i := 9) rfl rfl, ⟨by decide, by decide⟩, rfl, by decide⟩
set_option maxRecDepth 100000 in
theorem xc_32 : xm_cal xX 32 2 xM_X4_priceSum := ⟨rfl, xh3 (i := 48) rfl rfl, xh1 (i := 9) rfl rfl, ⟨by decide, by decide⟩, rfl, by decide⟩
set_option maxRecDepth 100000 in
theorem xc_33 : xm_cal xX 33 3 xM_X4_countOf := ⟨rfl, xh5 (i := 141) rfl rfl, xh1 (i := 9) rfl rfl, ⟨by decide, by decide⟩, rfl, by decide⟩
set_option maxRecDepth 100000 in
theorem xc_34 : xm_cal xX 34 2 xM_X4_countTo := ⟨rfl, xh3 (i := 56) rfl rfl, xh1 (i := 9) rfl rfl, ⟨by decide, by decide⟩, rfl, by decide⟩
set_option maxRecDepth 100000 in
theorem xc_35 : xm_cal xX 35 2 xM_X4_usersReached := ⟨rfl, xh6 (i := 27) rfl rfl, xh1 (i := 9) rfl rfl, ⟨by decide, by decide⟩, rfl, by decide⟩
set_option maxRecDepth 100000 in
theorem xc_36 : xm_cal xX 36 0 xM_X5_init := ⟨rfl, xh1 (i := 44) rfl rfl, xh1 (i := 2) rfl rfl, ⟨by decide, by decide⟩, rfl, by decide⟩
set_option maxRecDepth 100000 in
theorem xc_37 : xm_cal xX 37 1 xM_X5_read := ⟨rfl, xh3 (i := 148) rfl rfl, xh1 (i := 2) rfl rfl, ⟨by decide, by decide⟩, rfl, by decide⟩
set_option maxRecDepth 100000 in
theorem xc_38 : xm_cal xX 38 0 xM_X5_statement := ⟨rfl, xh3 (i := 172) rfl rfl, xh1 (i := 2) rfl rfl, ⟨by decide, by decide⟩, rfl, by decide⟩
set_option maxRecDepth 100000 in
theorem xc_39 : xm_cal xX 39 0 xM_X5_day := ⟨rfl, xh3 (i := 228) rfl rfl, xh1 (i := 2) rfl rfl, ⟨by decide, by decide⟩, rfl, by decide⟩
set_option maxRecDepth 100000 in
theorem xc_40 : xm_cal xX 40 0 xM_X5_attribution := ⟨rfl, xh4 (i := 14) rfl rfl, xh1 (i := 2) rfl rfl, ⟨by decide, by decide⟩, rfl, by decide⟩
set_option maxRecDepth 100000 in
theorem xc_41 : xm_cal xX 41 0 xM_X5_factors := ⟨rfl, xh4 (i := 19) rfl rfl, xh1 (i := 2) rfl rfl, ⟨by decide, by decide⟩, rfl, by decide⟩
set_option maxRecDepth 100000 in
theorem xc_42 : xm_cal xX 42 0 xM_X5_newTag := ⟨rfl, xh4 (i := 24) rfl rfl, xh1 (i := 2) rfl rfl, ⟨by decide, by decide⟩, rfl, by decide⟩
set_option maxRecDepth 100000 in
theorem xc_43 : xm_cal xX 43 0 xM_X5_newCampaign := ⟨rfl, xh4 (i := 92) rfl rfl, xh1 (i := 2) rfl rfl, ⟨by decide, by decide⟩, rfl, by decide⟩
set_option maxRecDepth 100000 in
theorem xc_44 : xm_cal xX 44 0 xM_X5_takeTarget := ⟨rfl, xh4 (i := 100) rfl rfl, xh1 (i := 2) rfl rfl, ⟨by decide, by decide⟩, rfl, by decide⟩
set_option maxRecDepth 100000 in
theorem xc_45 : xm_cal xX 45 0 xM_X5_pace := ⟨rfl, xh4 (i := 105) rfl rfl, xh1 (i := 2) rfl rfl, ⟨by decide, by decide⟩, rfl, by decide⟩
set_option maxRecDepth 100000 in
theorem xc_46 : xm_cal xX 46 0 xM_X5_apart := ⟨rfl, xh4 (i := 117) rfl rfl, xh1 (i := 2) rfl rfl, ⟨by decide, by decide⟩, rfl, by decide⟩
set_option maxRecDepth 100000 in
theorem xc_47 : xm_cal xX 47 1 xM_X5_isNewName := ⟨rfl, xh4 (i := 32) rfl rfl, xh1 (i := 2) rfl rfl, ⟨by decide, by decide⟩, rfl, by decide⟩
set_option maxRecDepth 100000 in
theorem xc_48 : xm_cal xX 48 0 xM_X5_isCampaign := ⟨rfl, xh4 (i := 109) rfl rfl, xh1 (i := 2) rfl rfl, ⟨by decide, by decide⟩, rfl, by decide⟩
set_option maxRecDepth 100000 in
theorem xc_49 : xm_cal xX 49 0 xM_X5_findTag := ⟨rfl, xh4 (i := 28) rfl rfl, xh1 (i := 2) rfl rfl, ⟨by decide, by decide⟩, rfl, by decide⟩
set_option maxRecDepth 100000 in
theorem xc_50 : xm_cal xX 50 0 xM_X5_findCampaign := ⟨rfl, xh4 (i := 96) rfl rfl, xh1 (i := 2) rfl rfl, ⟨by decide, by decide⟩, rfl, by decide⟩
set_option maxRecDepth 100000 in
theorem xc_51 : xm_cal xX 51 2 xM_X5_takeNumber := ⟨rfl, xh3 (i := 233) rfl rfl, xh1 (i := 2) rfl rfl, ⟨by decide, by decide⟩, rfl, by decide⟩
set_option maxRecDepth 100000 in
theorem xc_52 : xm_cal xX 52 2 xM_X5_isWithin := ⟨rfl, xh4 (i := 5) rfl rfl, xh1 (i := 2) rfl rfl, ⟨by decide, by decide⟩, rfl, by decide⟩
set_option maxRecDepth 100000 in
theorem xc_53 : xm_cal xX 53 0 xM_X5_takeSemicolon := ⟨rfl, xh4 (i := 9) rfl rfl, xh1 (i := 2) rfl rfl, ⟨by decide, by decide⟩, rfl, by decide⟩
set_option maxRecDepth 100000 in
theorem xc_54 : xm_cal xX 54 0 xM_X5_unexpected := ⟨rfl, xh3 (i := 237) rfl rfl, xh1 (i := 2) rfl rfl, ⟨by decide, by decide⟩, rfl, by decide⟩
set_option maxRecDepth 100000 in
theorem xc_55 : xm_cal xX 55 1 xM_X5_fail := ⟨rfl, xh4 (i := 1) rfl rfl, xh1 (i := 2) rfl rfl, ⟨by decide, by decide⟩, rfl, by decide⟩
set_option maxRecDepth 100000 in
theorem xc_56 : xm_cal xX 56 0 xM_X6_init := ⟨rfl, xh1 (i := 83) rfl rfl, xh1 (i := 4) rfl rfl, ⟨by decide, by decide⟩, rfl, by decide⟩
set_option maxRecDepth 100000 in
theorem xc_57 : xm_cal xX 57 0 xM_X6_clear := ⟨rfl, xh1 (i := 149) rfl rfl, xh1 (i := 4) rfl rfl, ⟨by decide, by decide⟩, rfl, by decide⟩
set_option maxRecDepth 100000 in
theorem xc_58 : xm_cal xX 58 0 xM_X7_init := ⟨rfl, xh1 (i := 235) rfl rfl, xh1 (i := 8) rfl rfl, ⟨by decide, by decide⟩, rfl, by decide⟩
set_option maxRecDepth 100000 in
theorem xc_59 : xm_cal xX 59 1 xM_X7_begin := ⟨rfl, xh2 (i := 55) rfl rfl, xh1 (i := 8) rfl rfl, ⟨by decide, by decide⟩, rfl, by decide⟩
set_option maxRecDepth 100000 in
theorem xc_60 : xm_cal xX 60 0 xM_X7_beginDay := ⟨rfl, xh2 (i := 59) rfl rfl, xh1 (i := 8) rfl rfl, ⟨by decide, by decide⟩, rfl, by decide⟩
set_option maxRecDepth 100000 in
theorem xc_61 : xm_cal xX 61 2 xM_X7_changeMode := ⟨rfl, xh5 (i := 137) rfl rfl, xh1 (i := 8) rfl rfl, ⟨by decide, by decide⟩, rfl, by decide⟩
set_option maxRecDepth 100000 in
theorem xc_62 : xm_cal xX 62 1 xM_X7_copy := ⟨rfl, xh3 (i := 33) rfl rfl, xh1 (i := 8) rfl rfl, ⟨by decide, by decide⟩, rfl, by decide⟩
set_option maxRecDepth 100000 in
theorem xc_63 : xm_cal xX 63 0 xM_X8_init := ⟨rfl, xh1 (i := 90) rfl rfl, xh1 (i := 5) rfl rfl, ⟨by decide, by decide⟩, rfl, by decide⟩
set_option maxRecDepth 100000 in
theorem xc_64 : xm_cal xX 64 0 xM_X9_init := ⟨rfl, xh1 (i := 50) rfl rfl, xh1 (i := 3) rfl rfl, ⟨by decide, by decide⟩, rfl, by decide⟩
set_option maxRecDepth 100000 in
theorem xc_65 : xm_cal xX 65 1 xM_X9_append := ⟨rfl, xh2 (i := 237) rfl rfl, xh1 (i := 3) rfl rfl, ⟨by decide, by decide⟩, rfl, by decide⟩
set_option maxRecDepth 100000 in
theorem xc_66 : xm_cal xX 66 1 xM_X9_begin := ⟨rfl, xh3 (i := 153) rfl rfl, xh1 (i := 3) rfl rfl, ⟨by decide, by decide⟩, rfl, by decide⟩
set_option maxRecDepth 100000 in
theorem xc_67 : xm_cal xX 67 0 xM_X9_advance := ⟨rfl, xh3 (i := 160) rfl rfl, xh1 (i := 3) rfl rfl, ⟨by decide, by decide⟩, rfl, by decide⟩
set_option maxRecDepth 100000 in
theorem xc_68 : xm_cal xX 68 2 xM_X9_runEnd := ⟨rfl, xh3 (i := 164) rfl rfl, xh1 (i := 3) rfl rfl, ⟨by decide, by decide⟩, rfl, by decide⟩
set_option maxRecDepth 100000 in
theorem xc_69 : xm_cal xX 69 0 xM_X9_evaluate := ⟨rfl, xh3 (i := 168) rfl rfl, xh1 (i := 3) rfl rfl, ⟨by decide, by decide⟩, rfl, by decide⟩
set_option maxRecDepth 100000 in
theorem xc_70 : xm_cal xX 70 1 xM_X9_spells := ⟨rfl, xh3 (i := 177) rfl rfl, xh1 (i := 3) rfl rfl, ⟨by decide, by decide⟩, rfl, by decide⟩
set_option maxRecDepth 100000 in
theorem xc_71 : xm_cal xX 71 0 xM_X9_letters := ⟨rfl, xh4 (i := 37) rfl rfl, xh1 (i := 3) rfl rfl, ⟨by decide, by decide⟩, rfl, by decide⟩
set_option maxRecDepth 100000 in
theorem xc_72 : xm_cal xX 72 0 xM_X10_init := ⟨rfl, xh1 (i := 36) rfl rfl, xh1 (i := 1) rfl rfl, ⟨by decide, by decide⟩, rfl, by decide⟩
set_option maxRecDepth 100000 in
theorem xc_73 : xm_cal xX 73 5 xM_X10_feed := ⟨rfl, xh2 (i := 233) rfl rfl, xh1 (i := 1) rfl rfl, ⟨by decide, by decide⟩, rfl, by decide⟩
set_option maxRecDepth 100000 in
theorem xc_74 : xm_cal xX 74 1 xM_X10_load := ⟨rfl, xh3 (i := 72) rfl rfl, xh1 (i := 1) rfl rfl, ⟨by decide, by decide⟩, rfl, by decide⟩
set_option maxRecDepth 100000 in
theorem xc_75 : xm_cal xX 75 0 xM_X10_errorKind := ⟨rfl, xh3 (i := 1) rfl rfl, xh1 (i := 1) rfl rfl, ⟨by decide, by decide⟩, rfl, by decide⟩
set_option maxRecDepth 100000 in
theorem xc_76 : xm_cal xX 76 0 xM_X10_errorPosition := ⟨rfl, xh3 (i := 5) rfl rfl, xh1 (i := 1) rfl rfl, ⟨by decide, by decide⟩, rfl, by decide⟩
set_option maxRecDepth 100000 in
theorem xc_77 : xm_cal xX 77 0 xM_X10_campaigns := ⟨rfl, xh3 (i := 9) rfl rfl, xh1 (i := 1) rfl rfl, ⟨by decide, by decide⟩, rfl, by decide⟩
set_option maxRecDepth 100000 in
theorem xc_78 : xm_cal xX 78 0 xM_X10_tags := ⟨rfl, xh3 (i := 13) rfl rfl, xh1 (i := 1) rfl rfl, ⟨by decide, by decide⟩, rfl, by decide⟩
set_option maxRecDepth 100000 in
theorem xc_79 : xm_cal xX 79 0 xM_X10_slots := ⟨rfl, xh3 (i := 17) rfl rfl, xh1 (i := 1) rfl rfl, ⟨by decide, by decide⟩, rfl, by decide⟩
set_option maxRecDepth 100000 in
theorem xc_80 : xm_cal xX 80 1 xM_X10_floor := ⟨rfl, xh4 (i := 133) rfl rfl, xh1 (i := 1) rfl rfl, ⟨by decide, by decide⟩, rfl, by decide⟩
set_option maxRecDepth 100000 in
theorem xc_81 : xm_cal xX 81 1 xM_X10_bid := ⟨rfl, xh4 (i := 160) rfl rfl, xh1 (i := 1) rfl rfl, ⟨by decide, by decide⟩, rfl, by decide⟩
set_option maxRecDepth 100000 in
theorem xc_82 : xm_cal xX 82 1 xM_X10_effectiveBid := ⟨rfl, xh4 (i := 172) rfl rfl, xh1 (i := 1) rfl rfl, ⟨by decide, by decide⟩, rfl, by decide⟩
set_option maxRecDepth 100000 in
theorem xc_83 : xm_cal xX 83 1 xM_X10_multiplier := ⟨rfl, xh4 (i := 186) rfl rfl, xh1 (i := 1) rfl rfl, ⟨by decide, by decide⟩, rfl, by decide⟩
set_option maxRecDepth 100000 in
theorem xc_84 : xm_cal xX 84 1 xM_X10_budget := ⟨rfl, xh4 (i := 193) rfl rfl, xh1 (i := 1) rfl rfl, ⟨by decide, by decide⟩, rfl, by decide⟩
set_option maxRecDepth 100000 in
theorem xc_85 : xm_cal xX 85 1 xM_X10_spent := ⟨rfl, xh4 (i := 200) rfl rfl, xh1 (i := 1) rfl rfl, ⟨by decide, by decide⟩, rfl, by decide⟩
set_option maxRecDepth 100000 in
theorem xc_86 : xm_cal xX 86 1 xM_X10_plan := ⟨rfl, xh4 (i := 207) rfl rfl, xh1 (i := 1) rfl rfl, ⟨by decide, by decide⟩, rfl, by decide⟩
set_option maxRecDepth 100000 in
theorem xc_87 : xm_cal xX 87 1 xM_X10_mode := ⟨rfl, xh4 (i := 218) rfl rfl, xh1 (i := 1) rfl rfl, ⟨by decide, by decide⟩, rfl, by decide⟩
set_option maxRecDepth 100000 in
theorem xc_88 : xm_cal xX 88 0 xM_X10_tick := ⟨rfl, xh3 (i := 21) rfl rfl, xh1 (i := 1) rfl rfl, ⟨by decide, by decide⟩, rfl, by decide⟩
set_option maxRecDepth 100000 in
theorem xc_89 : xm_cal xX 89 3 xM_X10_refusal := ⟨rfl, xh4 (i := 225) rfl rfl, xh1 (i := 1) rfl rfl, ⟨by decide, by decide⟩, rfl, by decide⟩
set_option maxRecDepth 100000 in
theorem xc_90 : xm_cal xX 90 3 xM_X10_ranked := ⟨rfl, xh5 (i := 8) rfl rfl, xh1 (i := 1) rfl rfl, ⟨by decide, by decide⟩, rfl, by decide⟩
set_option maxRecDepth 100000 in
theorem xc_91 : xm_cal xX 91 3 xM_X10_winner := ⟨rfl, xh5 (i := 27) rfl rfl, xh1 (i := 1) rfl rfl, ⟨by decide, by decide⟩, rfl, by decide⟩
set_option maxRecDepth 100000 in
theorem xc_92 : xm_cal xX 92 3 xM_X10_price := ⟨rfl, xh5 (i := 49) rfl rfl, xh1 (i := 1) rfl rfl, ⟨by decide, by decide⟩, rfl, by decide⟩
set_option maxRecDepth 100000 in
theorem xc_93 : xm_cal xX 93 4 xM_X10_leastBid := ⟨rfl, xh5 (i := 56) rfl rfl, xh1 (i := 1) rfl rfl, ⟨by decide, by decide⟩, rfl, by decide⟩
set_option maxRecDepth 100000 in
theorem xc_94 : xm_cal xX 94 3 xM_X10_bestFloor := ⟨rfl, xh5 (i := 76) rfl rfl, xh1 (i := 1) rfl rfl, ⟨by decide, by decide⟩, rfl, by decide⟩
set_option maxRecDepth 100000 in
theorem xc_95 : xm_cal xX 95 3 xM_X10_revenueAfter := ⟨rfl, xh5 (i := 96) rfl rfl, xh1 (i := 1) rfl rfl, ⟨by decide, by decide⟩, rfl, by decide⟩
set_option maxRecDepth 100000 in
theorem xc_96 : xm_cal xX 96 4 xM_X10_multiplierAfter := ⟨rfl, xh5 (i := 126) rfl rfl, xh1 (i := 1) rfl rfl, ⟨by decide, by decide⟩, rfl, by decide⟩
set_option maxRecDepth 100000 in
theorem xc_97 : xm_cal xX 97 4 xM_X10_bestMode := ⟨rfl, xh5 (i := 133) rfl rfl, xh1 (i := 1) rfl rfl, ⟨by decide, by decide⟩, rfl, by decide⟩
set_option maxRecDepth 100000 in
theorem xc_98 : xm_cal xX 98 3 xM_X10_tryAhead := ⟨rfl, xh5 (i := 101) rfl rfl, xh1 (i := 1) rfl rfl, ⟨by decide, by decide⟩, rfl, by decide⟩
set_option maxRecDepth 100000 in
theorem xc_99 : xm_cal xX 99 3 xM_X10_request := ⟨rfl, xh5 (i := 149) rfl rfl, xh1 (i := 1) rfl rfl, ⟨by decide, by decide⟩, rfl, by decide⟩
set_option maxRecDepth 100000 in
theorem xc_100 : xm_cal xX 100 1 xM_X10_pass := ⟨rfl, xh5 (i := 177) rfl rfl, xh1 (i := 1) rfl rfl, ⟨by decide, by decide⟩, rfl, by decide⟩
set_option maxRecDepth 100000 in
theorem xc_101 : xm_cal xX 101 2 xM_X10_convert := ⟨rfl, xh5 (i := 185) rfl rfl, xh1 (i := 1) rfl rfl, ⟨by decide, by decide⟩, rfl, by decide⟩
set_option maxRecDepth 100000 in
theorem xc_102 : xm_cal xX 102 2 xM_X10_attribute := ⟨rfl, xh5 (i := 194) rfl rfl, xh1 (i := 1) rfl rfl, ⟨by decide, by decide⟩, rfl, by decide⟩
set_option maxRecDepth 100000 in
theorem xc_103 : xm_cal xX 103 1 xM_X10_pause := ⟨rfl, xh5 (i := 205) rfl rfl, xh1 (i := 1) rfl rfl, ⟨by decide, by decide⟩, rfl, by decide⟩
set_option maxRecDepth 100000 in
theorem xc_104 : xm_cal xX 104 1 xM_X10_resume := ⟨rfl, xh5 (i := 214) rfl rfl, xh1 (i := 1) rfl rfl, ⟨by decide, by decide⟩, rfl, by decide⟩
set_option maxRecDepth 100000 in
theorem xc_105 : xm_cal xX 105 2 xM_X10_setBid := ⟨rfl, xh5 (i := 222) rfl rfl, xh1 (i := 1) rfl rfl, ⟨by decide, by decide⟩, rfl, by decide⟩
set_option maxRecDepth 100000 in
theorem xc_106 : xm_cal xX 106 2 xM_X10_setBudget := ⟨rfl, xh5 (i := 229) rfl rfl, xh1 (i := 1) rfl rfl, ⟨by decide, by decide⟩, rfl, by decide⟩
set_option maxRecDepth 100000 in
theorem xc_107 : xm_cal xX 107 2 xM_X10_setMode := ⟨rfl, xh5 (i := 237) rfl rfl, xh1 (i := 1) rfl rfl, ⟨by decide, by decide⟩, rfl, by decide⟩
set_option maxRecDepth 100000 in
theorem xc_108 : xm_cal xX 108 2 xM_X10_setFloor := ⟨rfl, xh6 (i := 4) rfl rfl, xh1 (i := 1) rfl rfl, ⟨by decide, by decide⟩, rfl, by decide⟩
set_option maxRecDepth 100000 in
theorem xc_109 : xm_cal xX 109 0 xM_X10_undo := ⟨rfl, xh3 (i := 25) rfl rfl, xh1 (i := 1) rfl rfl, ⟨by decide, by decide⟩, rfl, by decide⟩
set_option maxRecDepth 100000 in
theorem xc_110 : xm_cal xX 110 0 xM_X10_impressions := ⟨rfl, xh3 (i := 40) rfl rfl, xh1 (i := 1) rfl rfl, ⟨by decide, by decide⟩, rfl, by decide⟩
set_option maxRecDepth 100000 in
theorem xc_111 : xm_cal xX 111 2 xM_X10_impression := ⟨rfl, xh6 (i := 11) rfl rfl, xh1 (i := 1) rfl rfl, ⟨by decide, by decide⟩, rfl, by decide⟩
set_option maxRecDepth 100000 in
theorem xc_112 : xm_cal xX 112 0 xM_X10_revenue := ⟨rfl, xh3 (i := 44) rfl rfl, xh1 (i := 1) rfl rfl, ⟨by decide, by decide⟩, rfl, by decide⟩
set_option maxRecDepth 100000 in
theorem xc_113 : xm_cal xX 113 1 xM_X10_reach := ⟨rfl, xh6 (i := 23) rfl rfl, xh1 (i := 1) rfl rfl, ⟨by decide, by decide⟩, rfl, by decide⟩
set_option maxRecDepth 100000 in
theorem xc_114 : xm_cal xX 114 1 xM_X10_frequency := ⟨rfl, xh6 (i := 40) rfl rfl, xh1 (i := 1) rfl rfl, ⟨by decide, by decide⟩, rfl, by decide⟩
set_option maxRecDepth 100000 in
theorem xc_115 : xm_cal xX 115 2 xM_X10_recent := ⟨rfl, xh6 (i := 50) rfl rfl, xh1 (i := 1) rfl rfl, ⟨by decide, by decide⟩, rfl, by decide⟩
set_option maxRecDepth 100000 in
theorem xc_116 : xm_cal xX 116 0 xM_X10_topUser := ⟨rfl, xh3 (i := 52) rfl rfl, xh1 (i := 1) rfl rfl, ⟨by decide, by decide⟩, rfl, by decide⟩
set_option maxRecDepth 100000 in
theorem xc_117 : xm_cal xX 117 1 xM_X10_meanPrice := ⟨rfl, xh6 (i := 57) rfl rfl, xh1 (i := 1) rfl rfl, ⟨by decide, by decide⟩, rfl, by decide⟩
set_option maxRecDepth 100000 in
theorem xc_118 : xm_cal xX 118 0 xM_X10_conversions := ⟨rfl, xh3 (i := 60) rfl rfl, xh1 (i := 1) rfl rfl, ⟨by decide, by decide⟩, rfl, by decide⟩
set_option maxRecDepth 100000 in
theorem xc_119 : xm_cal xX 119 2 xM_X10_credit := ⟨rfl, xh6 (i := 64) rfl rfl, xh1 (i := 1) rfl rfl, ⟨by decide, by decide⟩, rfl, by decide⟩
set_option maxRecDepth 100000 in
theorem xc_120 : xm_cal xX 120 0 xM_X10_unattributed := ⟨rfl, xh3 (i := 64) rfl rfl, xh1 (i := 1) rfl rfl, ⟨by decide, by decide⟩, rfl, by decide⟩
set_option maxRecDepth 100000 in
theorem xc_121 : xm_cal xX 121 1 xM_X10_write := ⟨rfl, xh6 (i := 76) rfl rfl, xh1 (i := 1) rfl rfl, ⟨by decide, by decide⟩, rfl, by decide⟩
set_option maxRecDepth 100000 in
theorem xc_122 : xm_cal xX 122 1 xM_X10_written := ⟨rfl, xh7 (i := 85) rfl rfl, xh1 (i := 1) rfl rfl, ⟨by decide, by decide⟩, rfl, by decide⟩
set_option maxRecDepth 100000 in
theorem xc_123 : xm_cal xX 123 1 xM_X10_modeWord := ⟨rfl, xh7 (i := 69) rfl rfl, xh1 (i := 1) rfl rfl, ⟨by decide, by decide⟩, rfl, by decide⟩
set_option maxRecDepth 100000 in
theorem xc_124 : xm_cal xX 124 2 xM_X10_quotient := ⟨rfl, xh6 (i := 43) rfl rfl, xh1 (i := 1) rfl rfl, ⟨by decide, by decide⟩, rfl, by decide⟩
set_option maxRecDepth 100000 in
theorem xc_125 : xm_cal xX 125 1 xM_X10_requireCampaign := ⟨rfl, xh4 (i := 164) rfl rfl, xh1 (i := 1) rfl rfl, ⟨by decide, by decide⟩, rfl, by decide⟩
set_option maxRecDepth 100000 in
theorem xc_126 : xm_cal xX 126 1 xM_X10_requireTag := ⟨rfl, xh4 (i := 137) rfl rfl, xh1 (i := 1) rfl rfl, ⟨by decide, by decide⟩, rfl, by decide⟩
set_option maxRecDepth 100000 in
theorem xc_127 : xm_cal xX 127 1 xM_X10_requireSlot := ⟨rfl, xh5 (i := 31) rfl rfl, xh1 (i := 1) rfl rfl, ⟨by decide, by decide⟩, rfl, by decide⟩
set_option maxRecDepth 100000 in
theorem xc_128 : xm_cal xX 128 1 xM_X10_requireSlots := ⟨rfl, xh5 (i := 60) rfl rfl, xh1 (i := 1) rfl rfl, ⟨by decide, by decide⟩, rfl, by decide⟩
set_option maxRecDepth 100000 in
theorem xc_129 : xm_cal xX 129 1 xM_X10_requireUser := ⟨rfl, xh4 (i := 228) rfl rfl, xh1 (i := 1) rfl rfl, ⟨by decide, by decide⟩, rfl, by decide⟩
set_option maxRecDepth 100000 in
theorem xc_130 : xm_cal xX 130 3 xM_X10_requireRange := ⟨rfl, xh3 (i := 75) rfl rfl, xh1 (i := 1) rfl rfl, ⟨by decide, by decide⟩, rfl, by decide⟩
set_option maxRecDepth 100000 in
theorem xc_131 : xm_cal xX 131 0 xM_X11_init := ⟨rfl, xh7 (i := 101) rfl rfl, xh1 (i := 16) rfl rfl, ⟨by decide, by decide⟩, rfl, by decide⟩
set_option maxRecDepth 100000 in
theorem xc_132 : xm_cal xX 132 0 xM_X11_thrown := ⟨rfl, xh7 (i := 213) rfl rfl, xh1 (i := 16) rfl rfl, ⟨by decide, by decide⟩, rfl, by decide⟩
set_option maxRecDepth 100000 in
theorem xc_133 : xm_cal xX 133 3 xM_X11_between := ⟨rfl, xh7 (i := 232) rfl rfl, xh1 (i := 16) rfl rfl, ⟨by decide, by decide⟩, rfl, by decide⟩
set_option maxRecDepth 100000 in
theorem xc_134 : xm_cal xX 134 1 xM_X11_good := ⟨rfl, xh8 (i := 116) rfl rfl, xh1 (i := 16) rfl rfl, ⟨by decide, by decide⟩, rfl, by decide⟩
set_option maxRecDepth 100000 in
theorem xc_135 : xm_cal xX 135 2 xM_X11_good_ := ⟨rfl, xh8 (i := 180) rfl rfl, xh1 (i := 16) rfl rfl, ⟨by decide, by decide⟩, rfl, by decide⟩
set_option maxRecDepth 100000 in
theorem xc_136 : xm_cal xX 136 3 xM_X11_good__ := ⟨rfl, xh9 (i := 59) rfl rfl, xh1 (i := 16) rfl rfl, ⟨by decide, by decide⟩, rfl, by decide⟩
set_option maxRecDepth 100000 in
theorem xc_137 : xm_cal xX 137 2 xM_X11_copy := ⟨rfl, xh9 (i := 21) rfl rfl, xh1 (i := 16) rfl rfl, ⟨by decide, by decide⟩, rfl, by decide⟩
set_option maxRecDepth 100000 in
theorem xc_138 : xm_cal xX 138 0 xM_X11_remember := ⟨rfl, xh9 (i := 63) rfl rfl, xh1 (i := 16) rfl rfl, ⟨by decide, by decide⟩, rfl, by decide⟩
set_option maxRecDepth 100000 in
theorem xc_139 : xm_cal xX 139 0 xM_X11_undo := ⟨rfl, xh7 (i := 217) rfl rfl, xh1 (i := 16) rfl rfl, ⟨by decide, by decide⟩, rfl, by decide⟩
set_option maxRecDepth 100000 in
theorem xc_140 : xm_cal xX 140 1 xM_X11_append := ⟨rfl, xh7 (i := 225) rfl rfl, xh1 (i := 16) rfl rfl, ⟨by decide, by decide⟩, rfl, by decide⟩
set_option maxRecDepth 100000 in
theorem xc_141 : xm_cal xX 141 5 xM_X11_feed := ⟨rfl, xh7 (i := 221) rfl rfl, xh1 (i := 16) rfl rfl, ⟨by decide, by decide⟩, rfl, by decide⟩
set_option maxRecDepth 100000 in
theorem xc_142 : xm_cal xX 142 1 xM_X11_byteAt := ⟨rfl, xh8 (i := 0) rfl rfl, xh1 (i := 16) rfl rfl, ⟨by decide, by decide⟩, rfl, by decide⟩
set_option maxRecDepth 100000 in
theorem xc_143 : xm_cal xX 143 1 xM_X11_isLetter := ⟨rfl, xh8 (i := 3) rfl rfl, xh1 (i := 16) rfl rfl, ⟨by decide, by decide⟩, rfl, by decide⟩
set_option maxRecDepth 100000 in
theorem xc_144 : xm_cal xX 144 1 xM_X11_isDigit := ⟨rfl, xh8 (i := 8) rfl rfl, xh1 (i := 16) rfl rfl, ⟨by decide, by decide⟩, rfl, by decide⟩
set_option maxRecDepth 100000 in
theorem xc_145 : xm_cal xX 145 0 xM_X11_advance := ⟨rfl, xh7 (i := 236) rfl rfl, xh1 (i := 16) rfl rfl, ⟨by decide, by decide⟩, rfl, by decide⟩
set_option maxRecDepth 100000 in
theorem xc_146 : xm_cal xX 146 1 xM_X11_isWord := ⟨rfl, xh8 (i := 17) rfl rfl, xh1 (i := 16) rfl rfl, ⟨by decide, by decide⟩, rfl, by decide⟩
set_option maxRecDepth 100000 in
theorem xc_147 : xm_cal xX 147 1 xM_X11_fail := ⟨rfl, xh8 (i := 35) rfl rfl, xh1 (i := 16) rfl rfl, ⟨by decide, by decide⟩, rfl, by decide⟩
set_option maxRecDepth 100000 in
theorem xc_148 : xm_cal xX 148 2 xM_X11_number := ⟨rfl, xh8 (i := 31) rfl rfl, xh1 (i := 16) rfl rfl, ⟨by decide, by decide⟩, rfl, by decide⟩
set_option maxRecDepth 100000 in
theorem xc_149 : xm_cal xX 149 3 xM_X11_numberTo := ⟨rfl, xh8 (i := 27) rfl rfl, xh1 (i := 16) rfl rfl, ⟨by decide, by decide⟩, rfl, by decide⟩
set_option maxRecDepth 100000 in
theorem xc_150 : xm_cal xX 150 0 xM_X11_closed := ⟨rfl, xh8 (i := 84) rfl rfl, xh1 (i := 16) rfl rfl, ⟨by decide, by decide⟩, rfl, by decide⟩
set_option maxRecDepth 100000 in
theorem xc_151 : xm_cal xX 151 0 xM_X11_resetTerms := ⟨rfl, xh7 (i := 106) rfl rfl, xh1 (i := 16) rfl rfl, ⟨by decide, by decide⟩, rfl, by decide⟩
set_option maxRecDepth 100000 in
theorem xc_152 : xm_cal xX 152 0 xM_X11_takeTerms := ⟨rfl, xh7 (i := 110) rfl rfl, xh1 (i := 16) rfl rfl, ⟨by decide, by decide⟩, rfl, by decide⟩
set_option maxRecDepth 100000 in
theorem xc_153 : xm_cal xX 153 3 xM_X11_find := ⟨rfl, xh8 (i := 54) rfl rfl, xh1 (i := 16) rfl rfl, ⟨by decide, by decide⟩, rfl, by decide⟩
set_option maxRecDepth 100000 in
theorem xc_154 : xm_cal xX 154 1 xM_X11_ticks := ⟨rfl, xh8 (i := 23) rfl rfl, xh1 (i := 16) rfl rfl, ⟨by decide, by decide⟩, rfl, by decide⟩
set_option maxRecDepth 100000 in
theorem xc_155 : xm_cal xX 155 0 xM_X11_slotsStatement := ⟨rfl, xh8 (i := 41) rfl rfl, xh1 (i := 16) rfl rfl, ⟨by decide, by decide⟩, rfl, by decide⟩
set_option maxRecDepth 100000 in
theorem xc_156 : xm_cal xX 156 2 xM_X11_newName := ⟨rfl, xh8 (i := 50) rfl rfl, xh1 (i := 16) rfl rfl, ⟨by decide, by decide⟩, rfl, by decide⟩
set_option maxRecDepth 100000 in
theorem xc_157 : xm_cal xX 157 0 xM_X11_tagStatement := ⟨rfl, xh8 (i := 46) rfl rfl, xh1 (i := 16) rfl rfl, ⟨by decide, by decide⟩, rfl, by decide⟩
set_option maxRecDepth 100000 in
theorem xc_158 : xm_cal xX 158 1 xM_X11_target := ⟨rfl, xh8 (i := 63) rfl rfl, xh1 (i := 16) rfl rfl, ⟨by decide, by decide⟩, rfl, by decide⟩
set_option maxRecDepth 100000 in
theorem xc_159 : xm_cal xX 159 0 xM_X11_campaignStatement := ⟨rfl, xh8 (i := 59) rfl rfl, xh1 (i := 16) rfl rfl, ⟨by decide, by decide⟩, rfl, by decide⟩
set_option maxRecDepth 100000 in
theorem xc_160 : xm_cal xX 160 0 xM_X11_campaignName := ⟨rfl, xh8 (i := 72) rfl rfl, xh1 (i := 16) rfl rfl, ⟨by decide, by decide⟩, rfl, by decide⟩
set_option maxRecDepth 100000 in
theorem xc_161 : xm_cal xX 161 0 xM_X11_paceStatement := ⟨rfl, xh8 (i := 68) rfl rfl, xh1 (i := 16) rfl rfl, ⟨by decide, by decide⟩, rfl, by decide⟩
set_option maxRecDepth 100000 in
theorem xc_162 : xm_cal xX 162 0 xM_X11_apartStatement := ⟨rfl, xh8 (i := 80) rfl rfl, xh1 (i := 16) rfl rfl, ⟨by decide, by decide⟩, rfl, by decide⟩
set_option maxRecDepth 100000 in
theorem xc_163 : xm_cal xX 163 0 xM_X11_statement := ⟨rfl, xh8 (i := 12) rfl rfl, xh1 (i := 16) rfl rfl, ⟨by decide, by decide⟩, rfl, by decide⟩
set_option maxRecDepth 100000 in
theorem xc_164 : xm_cal xX 164 1 xM_X11_load := ⟨rfl, xh7 (i := 229) rfl rfl, xh1 (i := 16) rfl rfl, ⟨by decide, by decide⟩, rfl, by decide⟩
set_option maxRecDepth 100000 in
theorem xc_165 : xm_cal xX 165 0 xM_X11_errorKind := ⟨rfl, xh8 (i := 88) rfl rfl, xh1 (i := 16) rfl rfl, ⟨by decide, by decide⟩, rfl, by decide⟩
set_option maxRecDepth 100000 in
theorem xc_166 : xm_cal xX 166 0 xM_X11_errorPosition := ⟨rfl, xh8 (i := 92) rfl rfl, xh1 (i := 16) rfl rfl, ⟨by decide, by decide⟩, rfl, by decide⟩
set_option maxRecDepth 100000 in
theorem xc_167 : xm_cal xX 167 1 xM_X11_isCampaign := ⟨rfl, xh8 (i := 128) rfl rfl, xh1 (i := 16) rfl rfl, ⟨by decide, by decide⟩, rfl, by decide⟩
set_option maxRecDepth 100000 in
theorem xc_168 : xm_cal xX 168 1 xM_X11_isTag := ⟨rfl, xh8 (i := 112) rfl rfl, xh1 (i := 16) rfl rfl, ⟨by decide, by decide⟩, rfl, by decide⟩
set_option maxRecDepth 100000 in
theorem xc_169 : xm_cal xX 169 1 xM_X11_isUser := ⟨rfl, xh8 (i := 175) rfl rfl, xh1 (i := 16) rfl rfl, ⟨by decide, by decide⟩, rfl, by decide⟩
set_option maxRecDepth 100000 in
theorem xc_170 : xm_cal xX 170 1 xM_X11_areSlots := ⟨rfl, xh8 (i := 237) rfl rfl, xh1 (i := 16) rfl rfl, ⟨by decide, by decide⟩, rfl, by decide⟩
set_option maxRecDepth 100000 in
theorem xc_171 : xm_cal xX 171 2 xM_X11_of := ⟨rfl, xh8 (i := 132) rfl rfl, xh1 (i := 16) rfl rfl, ⟨by decide, by decide⟩, rfl, by decide⟩
set_option maxRecDepth 100000 in
theorem xc_172 : xm_cal xX 172 3 xM_X11_set := ⟨rfl, xh7 (i := 114) rfl rfl, xh1 (i := 16) rfl rfl, ⟨by decide, by decide⟩, rfl, by decide⟩
set_option maxRecDepth 100000 in
theorem xc_173 : xm_cal xX 173 1 xM_X11_effective := ⟨rfl, xh8 (i := 140) rfl rfl, xh1 (i := 16) rfl rfl, ⟨by decide, by decide⟩, rfl, by decide⟩
set_option maxRecDepth 100000 in
theorem xc_174 : xm_cal xX 174 1 xM_X11_planOf := ⟨rfl, xh8 (i := 160) rfl rfl, xh1 (i := 16) rfl rfl, ⟨by decide, by decide⟩, rfl, by decide⟩
set_option maxRecDepth 100000 in
theorem xc_175 : xm_cal xX 175 1 xM_X11_leftOf := ⟨rfl, xh8 (i := 188) rfl rfl, xh1 (i := 16) rfl rfl, ⟨by decide, by decide⟩, rfl, by decide⟩
set_option maxRecDepth 100000 in
theorem xc_176 : xm_cal xX 176 0 xM_X11_campaigns := ⟨rfl, xh8 (i := 96) rfl rfl, xh1 (i := 16) rfl rfl, ⟨by decide, by decide⟩, rfl, by decide⟩
set_option maxRecDepth 100000 in
theorem xc_177 : xm_cal xX 177 0 xM_X11_tags := ⟨rfl, xh8 (i := 100) rfl rfl, xh1 (i := 16) rfl rfl, ⟨by decide, by decide⟩, rfl, by decide⟩
set_option maxRecDepth 100000 in
theorem xc_178 : xm_cal xX 178 0 xM_X11_slots := ⟨rfl, xh8 (i := 104) rfl rfl, xh1 (i := 16) rfl rfl, ⟨by decide, by decide⟩, rfl, by decide⟩
set_option maxRecDepth 100000 in
theorem xc_179 : xm_cal xX 179 1 xM_X11_floor := ⟨rfl, xh8 (i := 108) rfl rfl, xh1 (i := 16) rfl rfl, ⟨by decide, by decide⟩, rfl, by decide⟩
set_option maxRecDepth 100000 in
theorem xc_180 : xm_cal xX 180 2 xM_X11_tell := ⟨rfl, xh8 (i := 124) rfl rfl, xh1 (i := 16) rfl rfl, ⟨by decide, by decide⟩, rfl, by decide⟩
set_option maxRecDepth 100000 in
theorem xc_181 : xm_cal xX 181 1 xM_X11_bid := ⟨rfl, xh8 (i := 120) rfl rfl, xh1 (i := 16) rfl rfl, ⟨by decide, by decide⟩, rfl, by decide⟩
set_option maxRecDepth 100000 in
theorem xc_182 : xm_cal xX 182 1 xM_X11_effectiveBid := ⟨rfl, xh8 (i := 136) rfl rfl, xh1 (i := 16) rfl rfl, ⟨by decide, by decide⟩, rfl, by decide⟩
set_option maxRecDepth 100000 in
theorem xc_183 : xm_cal xX 183 1 xM_X11_multiplier := ⟨rfl, xh8 (i := 144) rfl rfl, xh1 (i := 16) rfl rfl, ⟨by decide, by decide⟩, rfl, by decide⟩
set_option maxRecDepth 100000 in
theorem xc_184 : xm_cal xX 184 1 xM_X11_budget := ⟨rfl, xh8 (i := 148) rfl rfl, xh1 (i := 16) rfl rfl, ⟨by decide, by decide⟩, rfl, by decide⟩
set_option maxRecDepth 100000 in
theorem xc_185 : xm_cal xX 185 1 xM_X11_spent := ⟨rfl, xh8 (i := 152) rfl rfl, xh1 (i := 16) rfl rfl, ⟨by decide, by decide⟩, rfl, by decide⟩
set_option maxRecDepth 100000 in
theorem xc_186 : xm_cal xX 186 1 xM_X11_plan := ⟨rfl, xh8 (i := 156) rfl rfl, xh1 (i := 16) rfl rfl, ⟨by decide, by decide⟩, rfl, by decide⟩
set_option maxRecDepth 100000 in
theorem xc_187 : xm_cal xX 187 1 xM_X11_mode := ⟨rfl, xh8 (i := 164) rfl rfl, xh1 (i := 16) rfl rfl, ⟨by decide, by decide⟩, rfl, by decide⟩
set_option maxRecDepth 100000 in
theorem xc_188 : xm_cal xX 188 0 xM_X11_tick := ⟨rfl, xh8 (i := 168) rfl rfl, xh1 (i := 16) rfl rfl, ⟨by decide, by decide⟩, rfl, by decide⟩
set_option maxRecDepth 100000 in
theorem xc_189 : xm_cal xX 189 2 xM_X11_impressionAt := ⟨rfl, xh8 (i := 196) rfl rfl, xh1 (i := 16) rfl rfl, ⟨by decide, by decide⟩, rfl, by decide⟩
set_option maxRecDepth 100000 in
theorem xc_190 : xm_cal xX 190 2 xM_X11_recentOf := ⟨rfl, xh8 (i := 192) rfl rfl, xh1 (i := 16) rfl rfl, ⟨by decide, by decide⟩, rfl, by decide⟩
set_option maxRecDepth 100000 in
theorem xc_191 : xm_cal xX 191 3 xM_X11_refusalOf := ⟨rfl, xh8 (i := 184) rfl rfl, xh1 (i := 16) rfl rfl, ⟨by decide, by decide⟩, rfl, by decide⟩
set_option maxRecDepth 100000 in
theorem xc_192 : xm_cal xX 192 1 xM_X11_rankOne := ⟨rfl, xh8 (i := 208) rfl rfl, xh1 (i := 16) rfl rfl, ⟨by decide, by decide⟩, rfl, by decide⟩
set_option maxRecDepth 100000 in
theorem xc_193 : xm_cal xX 193 1 xM_X11_isApart := ⟨rfl, xh8 (i := 212) rfl rfl, xh1 (i := 16) rfl rfl, ⟨by decide, by decide⟩, rfl, by decide⟩
set_option maxRecDepth 100000 in
theorem xc_194 : xm_cal xX 194 3 xM_X11_priceOf := ⟨rfl, xh8 (i := 216) rfl rfl, xh1 (i := 16) rfl rfl, ⟨by decide, by decide⟩, rfl, by decide⟩
set_option maxRecDepth 100000 in
theorem xc_195 : xm_cal xX 195 3 xM_X11_auction := ⟨rfl, xh8 (i := 204) rfl rfl, xh1 (i := 16) rfl rfl, ⟨by decide, by decide⟩, rfl, by decide⟩
set_option maxRecDepth 100000 in
theorem xc_196 : xm_cal xX 196 1 xM_X11_takeOver := ⟨rfl, xh9 (i := 29) rfl rfl, xh1 (i := 16) rfl rfl, ⟨by decide, by decide⟩, rfl, by decide⟩
set_option maxRecDepth 100000 in
theorem xc_197 : xm_cal xX 197 1 xM_X11_control := ⟨rfl, xh9 (i := 37) rfl rfl, xh1 (i := 16) rfl rfl, ⟨by decide, by decide⟩, rfl, by decide⟩
set_option maxRecDepth 100000 in
theorem xc_198 : xm_cal xX 198 0 xM_X11_passTick := ⟨rfl, xh9 (i := 33) rfl rfl, xh1 (i := 16) rfl rfl, ⟨by decide, by decide⟩, rfl, by decide⟩
set_option maxRecDepth 100000 in
theorem xc_199 : xm_cal xX 199 2 xM_X11_isRequest := ⟨rfl, xh8 (i := 233) rfl rfl, xh1 (i := 16) rfl rfl, ⟨by decide, by decide⟩, rfl, by decide⟩
set_option maxRecDepth 100000 in
theorem xc_200 : xm_cal xX 200 3 xM_X11_refusal := ⟨rfl, xh8 (i := 172) rfl rfl, xh1 (i := 16) rfl rfl, ⟨by decide, by decide⟩, rfl, by decide⟩
set_option maxRecDepth 100000 in
theorem xc_201 : xm_cal xX 201 3 xM_X11_ranked := ⟨rfl, xh8 (i := 200) rfl rfl, xh1 (i := 16) rfl rfl, ⟨by decide, by decide⟩, rfl, by decide⟩
set_option maxRecDepth 100000 in
theorem xc_202 : xm_cal xX 202 3 xM_X11_winner := ⟨rfl, xh8 (i := 221) rfl rfl, xh1 (i := 16) rfl rfl, ⟨by decide, by decide⟩, rfl, by decide⟩
set_option maxRecDepth 100000 in
theorem xc_203 : xm_cal xX 203 3 xM_X11_price := ⟨rfl, xh8 (i := 225) rfl rfl, xh1 (i := 16) rfl rfl, ⟨by decide, by decide⟩, rfl, by decide⟩
set_option maxRecDepth 100000 in
theorem xc_204 : xm_cal xX 204 1 xM_X11_isWinner := ⟨rfl, xh9 (i := 1) rfl rfl, xh1 (i := 16) rfl rfl, ⟨by decide, by decide⟩, rfl, by decide⟩
set_option maxRecDepth 100000 in
theorem xc_205 : xm_cal xX 205 4 xM_X11_leastBid := ⟨rfl, xh8 (i := 229) rfl rfl, xh1 (i := 16) rfl rfl, ⟨by decide, by decide⟩, rfl, by decide⟩
set_option maxRecDepth 100000 in
theorem xc_206 : xm_cal xX 206 0 xM_X11_sumOfPrices := ⟨rfl, xh9 (i := 9) rfl rfl, xh1 (i := 16) rfl rfl, ⟨by decide, by decide⟩, rfl, by decide⟩
set_option maxRecDepth 100000 in
theorem xc_207 : xm_cal xX 207 3 xM_X11_bestFloor := ⟨rfl, xh9 (i := 5) rfl rfl, xh1 (i := 16) rfl rfl, ⟨by decide, by decide⟩, rfl, by decide⟩
set_option maxRecDepth 100000 in
theorem xc_208 : xm_cal xX 208 3 xM_X11_goAhead := ⟨rfl, xh9 (i := 25) rfl rfl, xh1 (i := 16) rfl rfl, ⟨by decide, by decide⟩, rfl, by decide⟩
set_option maxRecDepth 100000 in
theorem xc_209 : xm_cal xX 209 2 xM_X11_isAhead := ⟨rfl, xh9 (i := 17) rfl rfl, xh1 (i := 16) rfl rfl, ⟨by decide, by decide⟩, rfl, by decide⟩
set_option maxRecDepth 100000 in
theorem xc_210 : xm_cal xX 210 3 xM_X11_revenueAfter := ⟨rfl, xh9 (i := 13) rfl rfl, xh1 (i := 16) rfl rfl, ⟨by decide, by decide⟩, rfl, by decide⟩
set_option maxRecDepth 100000 in
theorem xc_211 : xm_cal xX 211 4 xM_X11_multiplierAfter := ⟨rfl, xh9 (i := 42) rfl rfl, xh1 (i := 16) rfl rfl, ⟨by decide, by decide⟩, rfl, by decide⟩
set_option maxRecDepth 100000 in
theorem xc_212 : xm_cal xX 212 1 xM_X11_impressionsOf := ⟨rfl, xh9 (i := 50) rfl rfl, xh1 (i := 16) rfl rfl, ⟨by decide, by decide⟩, rfl, by decide⟩
set_option maxRecDepth 100000 in
theorem xc_213 : xm_cal xX 213 4 xM_X11_bestMode := ⟨rfl, xh9 (i := 46) rfl rfl, xh1 (i := 16) rfl rfl, ⟨by decide, by decide⟩, rfl, by decide⟩
set_option maxRecDepth 100000 in
theorem xc_214 : xm_cal xX 214 3 xM_X11_request := ⟨rfl, xh9 (i := 54) rfl rfl, xh1 (i := 16) rfl rfl, ⟨by decide, by decide⟩, rfl, by decide⟩
set_option maxRecDepth 100000 in
theorem xc_215 : xm_cal xX 215 1 xM_X11_pass := ⟨rfl, xh9 (i := 67) rfl rfl, xh1 (i := 16) rfl rfl, ⟨by decide, by decide⟩, rfl, by decide⟩
set_option maxRecDepth 100000 in
theorem xc_216 : xm_cal xX 216 2 xM_X11_conversionAt := ⟨rfl, xh9 (i := 85) rfl rfl, xh1 (i := 16) rfl rfl, ⟨by decide, by decide⟩, rfl, by decide⟩
set_option maxRecDepth 100000 in
theorem xc_217 : xm_cal xX 217 2 xM_X11_leads := ⟨rfl, xh9 (i := 81) rfl rfl, xh1 (i := 16) rfl rfl, ⟨by decide, by decide⟩, rfl, by decide⟩
set_option maxRecDepth 100000 in
theorem xc_218 : xm_cal xX 218 1 xM_X11_lastOf := ⟨rfl, xh9 (i := 77) rfl rfl, xh1 (i := 16) rfl rfl, ⟨by decide, by decide⟩, rfl, by decide⟩
set_option maxRecDepth 100000 in
theorem xc_219 : xm_cal xX 219 1 xM_X11_firstOf := ⟨rfl, xh9 (i := 180) rfl rfl, xh1 (i := 16) rfl rfl, ⟨by decide, by decide⟩, rfl, by decide⟩
set_option maxRecDepth 100000 in
theorem xc_220 : xm_cal xX 220 1 xM_X11_campaignAt := ⟨rfl, xh9 (i := 89) rfl rfl, xh1 (i := 16) rfl rfl, ⟨by decide, by decide⟩, rfl, by decide⟩
set_option maxRecDepth 100000 in
theorem xc_221 : xm_cal xX 221 2 xM_X11_convert := ⟨rfl, xh9 (i := 73) rfl rfl, xh1 (i := 16) rfl rfl, ⟨by decide, by decide⟩, rfl, by decide⟩
set_option maxRecDepth 100000 in
theorem xc_222 : xm_cal xX 222 2 xM_X11_change := ⟨rfl, xh9 (i := 97) rfl rfl, xh1 (i := 16) rfl rfl, ⟨by decide, by decide⟩, rfl, by decide⟩
set_option maxRecDepth 100000 in
theorem xc_223 : xm_cal xX 223 1 xM_X11_pause := ⟨rfl, xh9 (i := 93) rfl rfl, xh1 (i := 16) rfl rfl, ⟨by decide, by decide⟩, rfl, by decide⟩
set_option maxRecDepth 100000 in
theorem xc_224 : xm_cal xX 224 1 xM_X11_resume := ⟨rfl, xh9 (i := 101) rfl rfl, xh1 (i := 16) rfl rfl, ⟨by decide, by decide⟩, rfl, by decide⟩
set_option maxRecDepth 100000 in
theorem xc_225 : xm_cal xX 225 2 xM_X11_setBid := ⟨rfl, xh9 (i := 105) rfl rfl, xh1 (i := 16) rfl rfl, ⟨by decide, by decide⟩, rfl, by decide⟩
set_option maxRecDepth 100000 in
theorem xc_226 : xm_cal xX 226 2 xM_X11_setBudget := ⟨rfl, xh9 (i := 110) rfl rfl, xh1 (i := 16) rfl rfl, ⟨by decide, by decide⟩, rfl, by decide⟩
set_option maxRecDepth 100000 in
theorem xc_227 : xm_cal xX 227 2 xM_X11_setMode := ⟨rfl, xh9 (i := 114) rfl rfl, xh1 (i := 16) rfl rfl, ⟨by decide, by decide⟩, rfl, by decide⟩
set_option maxRecDepth 100000 in
theorem xc_228 : xm_cal xX 228 2 xM_X11_setFloor := ⟨rfl, xh9 (i := 119) rfl rfl, xh1 (i := 16) rfl rfl, ⟨by decide, by decide⟩, rfl, by decide⟩
set_option maxRecDepth 100000 in
theorem xc_229 : xm_cal xX 229 0 xM_X11_impressions := ⟨rfl, xh9 (i := 123) rfl rfl, xh1 (i := 16) rfl rfl, ⟨by decide, by decide⟩, rfl, by decide⟩
set_option maxRecDepth 100000 in
theorem xc_230 : xm_cal xX 230 2 xM_X11_impression := ⟨rfl, xh9 (i := 127) rfl rfl, xh1 (i := 16) rfl rfl, ⟨by decide, by decide⟩, rfl, by decide⟩
set_option maxRecDepth 100000 in
theorem xc_231 : xm_cal xX 231 0 xM_X11_revenue := ⟨rfl, xh9 (i := 132) rfl rfl, xh1 (i := 16) rfl rfl, ⟨by decide, by decide⟩, rfl, by decide⟩
set_option maxRecDepth 100000 in
theorem xc_232 : xm_cal xX 232 1 xM_X11_reachOf := ⟨rfl, xh9 (i := 140) rfl rfl, xh1 (i := 16) rfl rfl, ⟨by decide, by decide⟩, rfl, by decide⟩
set_option maxRecDepth 100000 in
theorem xc_233 : xm_cal xX 233 1 xM_X11_reach := ⟨rfl, xh9 (i := 136) rfl rfl, xh1 (i := 16) rfl rfl, ⟨by decide, by decide⟩, rfl, by decide⟩
set_option maxRecDepth 100000 in
theorem xc_234 : xm_cal xX 234 1 xM_X11_frequency := ⟨rfl, xh9 (i := 144) rfl rfl, xh1 (i := 16) rfl rfl, ⟨by decide, by decide⟩, rfl, by decide⟩
set_option maxRecDepth 100000 in
theorem xc_235 : xm_cal xX 235 2 xM_X11_recent := ⟨rfl, xh9 (i := 148) rfl rfl, xh1 (i := 16) rfl rfl, ⟨by decide, by decide⟩, rfl, by decide⟩
set_option maxRecDepth 100000 in
theorem xc_236 : xm_cal xX 236 1 xM_X11_impressionsTo := ⟨rfl, xh9 (i := 156) rfl rfl, xh1 (i := 16) rfl rfl, ⟨by decide, by decide⟩, rfl, by decide⟩
set_option maxRecDepth 100000 in
theorem xc_237 : xm_cal xX 237 0 xM_X11_topUser := ⟨rfl, xh9 (i := 152) rfl rfl, xh1 (i := 16) rfl rfl, ⟨by decide, by decide⟩, rfl, by decide⟩
set_option maxRecDepth 100000 in
theorem xc_238 : xm_cal xX 238 1 xM_X11_meanPrice := ⟨rfl, xh9 (i := 160) rfl rfl, xh1 (i := 16) rfl rfl, ⟨by decide, by decide⟩, rfl, by decide⟩
set_option maxRecDepth 100000 in
theorem xc_239 : xm_cal xX 239 0 xM_X11_conversions := ⟨rfl, xh9 (i := 164) rfl rfl, xh1 (i := 16) rfl rfl, ⟨by decide, by decide⟩, rfl, by decide⟩
set_option maxRecDepth 100000 in
theorem xc_240 : xm_cal xX 240 2 xM_X11_evenShare := ⟨rfl, xh9 (i := 176) rfl rfl, xh1 (i := 16) rfl rfl, ⟨by decide, by decide⟩, rfl, by decide⟩
set_option maxRecDepth 100000 in
theorem xc_241 : xm_cal xX 241 3 xM_X11_shareBy := ⟨rfl, xh9 (i := 172) rfl rfl, xh1 (i := 16) rfl rfl, ⟨by decide, by decide⟩, rfl, by decide⟩
set_option maxRecDepth 100000 in
theorem xc_242 : xm_cal xX 242 2 xM_X11_credit := ⟨rfl, xh9 (i := 168) rfl rfl, xh1 (i := 16) rfl rfl, ⟨by decide, by decide⟩, rfl, by decide⟩
set_option maxRecDepth 100000 in
theorem xc_243 : xm_cal xX 243 0 xM_X11_unattributed := ⟨rfl, xh9 (i := 184) rfl rfl, xh1 (i := 16) rfl rfl, ⟨by decide, by decide⟩, rfl, by decide⟩
set_option maxRecDepth 100000 in
theorem xc_244 : xm_cal xX 244 1 xM_X11_put := ⟨rfl, xh9 (i := 197) rfl rfl, xh1 (i := 16) rfl rfl, ⟨by decide, by decide⟩, rfl, by decide⟩
set_option maxRecDepth 100000 in
theorem xc_245 : xm_cal xX 245 1 xM_X11_putText := ⟨rfl, xh9 (i := 204) rfl rfl, xh1 (i := 16) rfl rfl, ⟨by decide, by decide⟩, rfl, by decide⟩
set_option maxRecDepth 100000 in
theorem xc_246 : xm_cal xX 246 1 xM_X11_putNumber := ⟨rfl, xh9 (i := 209) rfl rfl, xh1 (i := 16) rfl rfl, ⟨by decide, by decide⟩, rfl, by decide⟩
set_option maxRecDepth 100000 in
theorem xc_247 : xm_cal xX 247 1 xM_X11_putName := ⟨rfl, xh9 (i := 192) rfl rfl, xh1 (i := 16) rfl rfl, ⟨by decide, by decide⟩, rfl, by decide⟩
set_option maxRecDepth 100000 in
theorem xc_248 : xm_cal xX 248 1 xM_X11_modeWord := ⟨rfl, xh9 (i := 200) rfl rfl, xh1 (i := 16) rfl rfl, ⟨by decide, by decide⟩, rfl, by decide⟩
set_option maxRecDepth 100000 in
theorem xc_249 : xm_cal xX 249 1 xM_X11_write := ⟨rfl, xh9 (i := 188) rfl rfl, xh1 (i := 16) rfl rfl, ⟨by decide, by decide⟩, rfl, by decide⟩
set_option maxRecDepth 100000 in
theorem xc_250 : xm_cal xX 250 1 xM_X11_written := ⟨rfl, xh9 (i := 216) rfl rfl, xh1 (i := 16) rfl rfl, ⟨by decide, by decide⟩, rfl, by decide⟩
set_option maxRecDepth 100000 in
theorem xc_251 : xm_cal xX 251 1 xM_J5_init_d00df := ⟨rfl, xh2 (i := 186) rfl rfl, xh1 (i := 12) rfl rfl, ⟨by decide, by decide⟩, rfl, by decide⟩
set_option maxRecDepth 100000 in
theorem xc_252 : xm_cal xX 252 0 xM_J5_length_8abf5 := ⟨rfl, xh6 (i := 223) rfl rfl, xh1 (i := 12) rfl rfl, ⟨by decide, by decide⟩, rfl, by decide⟩
set_option maxRecDepth 100000 in
theorem xc_253 : xm_cal xX 253 1 xM_J5_ensureCapacityInternal_d00df := ⟨rfl, xh6 (i := 106) rfl rfl, xh1 (i := 12) rfl rfl, ⟨by decide, by decide⟩, rfl, by decide⟩
set_option maxRecDepth 100000 in
theorem xc_254 : xm_cal xX 254 1 xM_J5_newCapacity_0f7a4 := ⟨rfl, xh6 (i := 110) rfl rfl, xh1 (i := 12) rfl rfl, ⟨by decide, by decide⟩, rfl, by decide⟩
set_option maxRecDepth 100000 in
theorem xc_255 : xm_cal xX 255 0 xM_J5_inflate_da8c8 := ⟨rfl, xh6 (i := 162) rfl rfl, xh1 (i := 12) rfl rfl, ⟨by decide, by decide⟩, rfl, by decide⟩
set_option maxRecDepth 100000 in
theorem xc_256 : xm_cal xX 256 1 xM_J5_setLength_d00df := ⟨rfl, xh6 (i := 83) rfl rfl, xh1 (i := 12) rfl rfl, ⟨by decide, by decide⟩, rfl, by decide⟩
set_option maxRecDepth 100000 in
theorem xc_257 : xm_cal xX 257 1 xM_J5_charAt_5068e := ⟨rfl, xh7 (i := 93) rfl rfl, xh1 (i := 12) rfl rfl, ⟨by decide, by decide⟩, rfl, by decide⟩
set_option maxRecDepth 100000 in
theorem xc_258 : xm_cal xX 258 1 xM_J5_append_cf1ce := ⟨rfl, xh6 (i := 98) rfl rfl, xh1 (i := 12) rfl rfl, ⟨by decide, by decide⟩, rfl, by decide⟩
set_option maxRecDepth 100000 in
theorem xc_259 : xm_cal xX 259 0 xM_J5_appendNull_278bc := ⟨rfl, xh6 (i := 102) rfl rfl, xh1 (i := 12) rfl rfl, ⟨by decide, by decide⟩, rfl, by decide⟩
set_option maxRecDepth 100000 in
theorem xc_260 : xm_cal xX 260 1 xM_J5_append_3fe6f := ⟨rfl, xh7 (i := 60) rfl rfl, xh1 (i := 12) rfl rfl, ⟨by decide, by decide⟩, rfl, by decide⟩
set_option maxRecDepth 100000 in
theorem xc_261 : xm_cal xX 261 1 xM_J5_append_c97b9 := ⟨rfl, xh6 (i := 181) rfl rfl, xh1 (i := 12) rfl rfl, ⟨by decide, by decide⟩, rfl, by decide⟩
set_option maxRecDepth 100000 in
theorem xc_262 : xm_cal xX 262 0 xM_J5_getValue_6d5f1 := ⟨rfl, xh6 (i := 215) rfl rfl, xh1 (i := 12) rfl rfl, ⟨by decide, by decide⟩, rfl, by decide⟩
set_option maxRecDepth 100000 in
theorem xc_263 : xm_cal xX 263 0 xM_J5_isLatin1_aae02 := ⟨rfl, xh6 (i := 136) rfl rfl, xh1 (i := 12) rfl rfl, ⟨by decide, by decide⟩, rfl, by decide⟩
set_option maxRecDepth 100000 in
theorem xc_264 : xm_cal xX 264 1 xM_J5_inflateIfNeededFor_a7421 := ⟨rfl, xh6 (i := 157) rfl rfl, xh1 (i := 12) rfl rfl, ⟨by decide, by decide⟩, rfl, by decide⟩
set_option maxRecDepth 100000 in
theorem xc_265 : xm_cal xX 265 2 xM_J5_putStringAt_47b60 := ⟨rfl, xh6 (i := 153) rfl rfl, xh1 (i := 12) rfl rfl, ⟨by decide, by decide⟩, rfl, by decide⟩
set_option maxRecDepth 100000 in
theorem xc_267 : xm_cal xX 267 3 xM_J6_getChars_ba4f3 := ⟨rfl, xh6 (i := 187) rfl rfl, xh1 (i := 27) rfl rfl, ⟨by decide, by decide⟩, rfl, by decide⟩
set_option maxRecDepth 100000 in
theorem xc_268 : xm_cal xX 268 1 xM_J6_stringSize_0f7a4 := ⟨rfl, xh6 (i := 184) rfl rfl, xh1 (i := 27) rfl rfl, ⟨by decide, by decide⟩, rfl, by decide⟩
set_option maxRecDepth 100000 in
theorem xc_269 : xm_cal xX 269 1 xM_J6_bitCount_0f7a4 := ⟨rfl, xh6 (i := 30) rfl rfl, xh1 (i := 27) rfl rfl, ⟨by decide, by decide⟩, rfl, by decide⟩
set_option maxRecDepth 100000 in
theorem xc_270 : xm_cal xX 270 1 xM_J0_init_905df := ⟨rfl, xh4 (i := 42) rfl rfl, xh1 (i := 14) rfl rfl, ⟨by decide, by decide⟩, rfl, by decide⟩
set_option maxRecDepth 100000 in
theorem xc_271 : xm_cal xX 271 1 xM_J0_init_81219 := ⟨rfl, xh6 (i := 207) rfl rfl, xh1 (i := 14) rfl rfl, ⟨by decide, by decide⟩, rfl, by decide⟩
set_option maxRecDepth 100000 in
theorem xc_272 : xm_cal xX 272 0 xM_J0_length_8abf5 := ⟨rfl, xh3 (i := 181) rfl rfl, xh1 (i := 14) rfl rfl, ⟨by decide, by decide⟩, rfl, by decide⟩
set_option maxRecDepth 100000 in
theorem xc_273 : xm_cal xX 273 1 xM_J0_charAt_5068e := ⟨rfl, xh3 (i := 190) rfl rfl, xh1 (i := 14) rfl rfl, ⟨by decide, by decide⟩, rfl, by decide⟩
set_option maxRecDepth 100000 in
theorem xc_274 : xm_cal xX 274 3 xM_J0_getBytes_840e7 := ⟨rfl, xh6 (i := 172) rfl rfl, xh1 (i := 14) rfl rfl, ⟨by decide, by decide⟩, rfl, by decide⟩
set_option maxRecDepth 100000 in
theorem xc_275 : xm_cal xX 275 4 xM_J0_init_bb550 := ⟨rfl, xh4 (i := 45) rfl rfl, xh1 (i := 14) rfl rfl, ⟨by decide, by decide⟩, rfl, by decide⟩
set_option maxRecDepth 100000 in
theorem xc_276 : xm_cal xX 276 2 xM_J0_init_db425 := ⟨rfl, xh6 (i := 210) rfl rfl, xh1 (i := 14) rfl rfl, ⟨by decide, by decide⟩, rfl, by decide⟩
set_option maxRecDepth 100000 in
theorem xc_277 : xm_cal xX 277 0 xM_J0_coder_7d493 := ⟨rfl, xh3 (i := 185) rfl rfl, xh1 (i := 14) rfl rfl, ⟨by decide, by decide⟩, rfl, by decide⟩
set_option maxRecDepth 100000 in
theorem xc_278 : xm_cal xX 278 0 xM_J0_isLatin1_aae02 := ⟨rfl, xh3 (i := 194) rfl rfl, xh1 (i := 14) rfl rfl, ⟨by decide, by decide⟩, rfl, by decide⟩
set_option maxRecDepth 100000 in
theorem xc_279 : xm_cal xX 279 2 xM_J0_checkIndex_df160 := ⟨rfl, xh3 (i := 200) rfl rfl, xh1 (i := 14) rfl rfl, ⟨by decide, by decide⟩, rfl, by decide⟩
set_option maxRecDepth 100000 in
theorem xc_280 : xm_cal xX 280 3 xM_J0_checkBoundsOffCount_cabcc := ⟨rfl, xh4 (i := 69) rfl rfl, xh1 (i := 14) rfl rfl, ⟨by decide, by decide⟩, rfl, by decide⟩
set_option maxRecDepth 100000 in
theorem xc_281 : xm_cal xX 281 3 xM_J0_checkBoundsBeginEnd_23922 := ⟨rfl, xh6 (i := 145) rfl rfl, xh1 (i := 14) rfl rfl, ⟨by decide, by decide⟩, rfl, by decide⟩
set_option maxRecDepth 100000 in
theorem xc_282 : xm_cal xX 282 0 xM_J4_init_da8c8 := ⟨rfl, xh2 (i := 183) rfl rfl, xh1 (i := 13) rfl rfl, ⟨by decide, by decide⟩, rfl, by decide⟩
set_option maxRecDepth 100000 in
theorem xc_283 : xm_cal xX 283 1 xM_J4_append_15ec4 := ⟨rfl, xh6 (i := 95) rfl rfl, xh1 (i := 13) rfl rfl, ⟨by decide, by decide⟩, rfl, by decide⟩
set_option maxRecDepth 100000 in
theorem xc_284 : xm_cal xX 284 1 xM_J4_append_cf468 := ⟨rfl, xh7 (i := 57) rfl rfl, xh1 (i := 13) rfl rfl, ⟨by decide, by decide⟩, rfl, by decide⟩
set_option maxRecDepth 100000 in
theorem xc_285 : xm_cal xX 285 1 xM_J4_append_bf812 := ⟨rfl, xh6 (i := 178) rfl rfl, xh1 (i := 13) rfl rfl, ⟨by decide, by decide⟩, rfl, by decide⟩
set_option maxRecDepth 100000 in
theorem xc_286 : xm_cal xX 286 0 xM_J4_toString_0e30d := ⟨rfl, xh6 (i := 203) rfl rfl, xh1 (i := 13) rfl rfl, ⟨by decide, by decide⟩, rfl, by decide⟩
set_option maxRecDepth 100000 in
theorem xc_287 : xm_cal xX 287 1 xM_J4_charAt_5068e := ⟨rfl, xh7 (i := 90) rfl rfl, xh1 (i := 13) rfl rfl, ⟨by decide, by decide⟩, rfl, by decide⟩
set_option maxRecDepth 100000 in
theorem xc_288 : xm_cal xX 288 1 xM_J4_setLength_d00df := ⟨rfl, xh6 (i := 80) rfl rfl, xh1 (i := 13) rfl rfl, ⟨by decide, by decide⟩, rfl, by decide⟩
set_option maxRecDepth 100000 in
theorem xc_289 : xm_cal xX 289 0 xM_J4_length_8abf5 := ⟨rfl, xh6 (i := 221) rfl rfl, xh1 (i := 13) rfl rfl, ⟨by decide, by decide⟩, rfl, by decide⟩
set_option maxRecDepth 100000 in
theorem xc_291 : xm_cal xX 291 2 xM_J1_charAt_3b067 := ⟨rfl, xh3 (i := 197) rfl rfl, xh1 (i := 22) rfl rfl, ⟨by decide, by decide⟩, rfl, by decide⟩
set_option maxRecDepth 100000 in
theorem xc_292 : xm_cal xX 292 1 xM_J1_canEncode_fc78d := ⟨rfl, xh7 (i := 63) rfl rfl, xh1 (i := 22) rfl rfl, ⟨by decide, by decide⟩, rfl, by decide⟩
set_option maxRecDepth 100000 in
theorem xc_293 : xm_cal xX 293 3 xM_J1_fillNull_b72d1 := ⟨rfl, xh7 (i := 16) rfl rfl, xh1 (i := 22) rfl rfl, ⟨by decide, by decide⟩, rfl, by decide⟩
set_option maxRecDepth 100000 in
theorem xc_294 : xm_cal xX 294 5 xM_J1_inflate_0e8fd := ⟨rfl, xh6 (i := 165) rfl rfl, xh1 (i := 22) rfl rfl, ⟨by decide, by decide⟩, rfl, by decide⟩
set_option maxRecDepth 100000 in
theorem xc_295 : xm_cal xX 295 1 xM_J2_newBytesFor_77867 := ⟨rfl, xh2 (i := 192) rfl rfl, xh1 (i := 15) rfl rfl, ⟨by decide, by decide⟩, rfl, by decide⟩
set_option maxRecDepth 100000 in
theorem xc_296 : xm_cal xX 296 1 xM_J2_newBytesLength_0f7a4 := ⟨rfl, xh2 (i := 195) rfl rfl, xh1 (i := 15) rfl rfl, ⟨by decide, by decide⟩, rfl, by decide⟩
set_option maxRecDepth 100000 in
theorem xc_297 : xm_cal xX 297 3 xM_J2_putChar_b72d1 := ⟨rfl, xh4 (i := 60) rfl rfl, xh1 (i := 15) rfl rfl, ⟨by decide, by decide⟩, rfl, by decide⟩
set_option maxRecDepth 100000 in
theorem xc_298 : xm_cal xX 298 2 xM_J2_getChar_3b067 := ⟨rfl, xh3 (i := 218) rfl rfl, xh1 (i := 15) rfl rfl, ⟨by decide, by decide⟩, rfl, by decide⟩
set_option maxRecDepth 100000 in
theorem xc_299 : xm_cal xX 299 1 xM_J2_length_9d52b := ⟨rfl, xh3 (i := 214) rfl rfl, xh1 (i := 15) rfl rfl, ⟨by decide, by decide⟩, rfl, by decide⟩
set_option maxRecDepth 100000 in
theorem xc_300 : xm_cal xX 300 3 xM_J2_toBytes_dfd3c := ⟨rfl, xh4 (i := 56) rfl rfl, xh1 (i := 15) rfl rfl, ⟨by decide, by decide⟩, rfl, by decide⟩
set_option maxRecDepth 100000 in
theorem xc_301 : xm_cal xX 301 2 xM_J2_coderFromArrayLen_85cad := ⟨rfl, xh4 (i := 75) rfl rfl, xh1 (i := 15) rfl rfl, ⟨by decide, by decide⟩, rfl, by decide⟩
set_option maxRecDepth 100000 in
theorem xc_302 : xm_cal xX 302 3 xM_J2_compress_dfd3c := ⟨rfl, xh4 (i := 50) rfl rfl, xh1 (i := 15) rfl rfl, ⟨by decide, by decide⟩, rfl, by decide⟩
set_option maxRecDepth 100000 in
theorem xc_303 : xm_cal xX 303 3 xM_J2_compress_39247 := ⟨rfl, xh7 (i := 4) rfl rfl, xh1 (i := 15) rfl rfl, ⟨by decide, by decide⟩, rfl, by decide⟩
set_option maxRecDepth 100000 in
theorem xc_304 : xm_cal xX 304 5 xM_J2_compress_fe38e := ⟨rfl, xh4 (i := 53) rfl rfl, xh1 (i := 15) rfl rfl, ⟨by decide, by decide⟩, rfl, by decide⟩
set_option maxRecDepth 100000 in
theorem xc_305 : xm_cal xX 305 5 xM_J2_compress_5af95 := ⟨rfl, xh4 (i := 63) rfl rfl, xh1 (i := 15) rfl rfl, ⟨by decide, by decide⟩, rfl, by decide⟩
set_option maxRecDepth 100000 in
theorem xc_306 : xm_cal xX 306 3 xM_J2_fillNull_b72d1 := ⟨rfl, xh7 (i := 51) rfl rfl, xh1 (i := 15) rfl rfl, ⟨by decide, by decide⟩, rfl, by decide⟩
set_option maxRecDepth 100000 in
theorem xc_307 : xm_cal xX 307 3 xM_J2_putCharSB_b72d1 := ⟨rfl, xh7 (i := 66) rfl rfl, xh1 (i := 15) rfl rfl, ⟨by decide, by decide⟩, rfl, by decide⟩
set_option maxRecDepth 100000 in
theorem xc_308 : xm_cal xX 308 4 xM_J2_getChars_46870 := ⟨rfl, xh6 (i := 194) rfl rfl, xh1 (i := 15) rfl rfl, ⟨by decide, by decide⟩, rfl, by decide⟩
set_option maxRecDepth 100000 in
theorem xc_309 : xm_cal xX 309 6 xM_J2_putCharsAt_cd4e5 := ⟨rfl, xh6 (i := 139) rfl rfl, xh1 (i := 15) rfl rfl, ⟨by decide, by decide⟩, rfl, by decide⟩
set_option maxRecDepth 100000 in
theorem xc_310 : xm_cal xX 310 2 xM_J2_charAt_3b067 := ⟨rfl, xh3 (i := 208) rfl rfl, xh1 (i := 15) rfl rfl, ⟨by decide, by decide⟩, rfl, by decide⟩
set_option maxRecDepth 100000 in
theorem xc_311 : xm_cal xX 311 5 xM_J2_inflate_0e8fd := ⟨rfl, xh6 (i := 168) rfl rfl, xh1 (i := 15) rfl rfl, ⟨by decide, by decide⟩, rfl, by decide⟩
set_option maxRecDepth 100000 in
theorem xc_312 : xm_cal xX 312 3 xM_J2_getChars_ba4f3 := ⟨rfl, xh6 (i := 197) rfl rfl, xh1 (i := 15) rfl rfl, ⟨by decide, by decide⟩, rfl, by decide⟩
set_option maxRecDepth 100000 in
theorem xc_313 : xm_cal xX 313 2 xM_J2_checkIndex_2214a := ⟨rfl, xh3 (i := 211) rfl rfl, xh1 (i := 15) rfl rfl, ⟨by decide, by decide⟩, rfl, by decide⟩
set_option maxRecDepth 100000 in
theorem xc_314 : xm_cal xX 314 3 xM_J2_checkBoundsBeginEnd_d044e := ⟨rfl, xh6 (i := 142) rfl rfl, xh1 (i := 15) rfl rfl, ⟨by decide, by decide⟩, rfl, by decide⟩
set_option maxRecDepth 100000 in
theorem xc_315 : xm_cal xX 315 3 xM_J2_checkBoundsOffCount_d044e := ⟨rfl, xh4 (i := 66) rfl rfl, xh1 (i := 15) rfl rfl, ⟨by decide, by decide⟩, rfl, by decide⟩
set_option maxRecDepth 100000 in
theorem xc_316 : xm_cal xX 316 3 xM_J7_rangeCheck_23922 := ⟨rfl, xh7 (i := 22) rfl rfl, xh1 (i := 30) rfl rfl, ⟨by decide, by decide⟩, rfl, by decide⟩
set_option maxRecDepth 100000 in
theorem xc_317 : xm_cal xX 317 4 xM_J7_fill_eb02e := ⟨rfl, xh7 (i := 19) rfl rfl, xh1 (i := 30) rfl rfl, ⟨by decide, by decide⟩, rfl, by decide⟩
set_option maxRecDepth 100000 in
theorem xc_318 : xm_cal xX 318 2 xM_J7_copyOf_9075b := ⟨rfl, xh6 (i := 122) rfl rfl, xh1 (i := 30) rfl rfl, ⟨by decide, by decide⟩, rfl, by decide⟩
set_option maxRecDepth 100000 in
theorem xc_319 : xm_cal xX 319 2 xM_J7_checkLength_df160 := ⟨rfl, xh6 (i := 233) rfl rfl, xh1 (i := 30) rfl rfl, ⟨by decide, by decide⟩, rfl, by decide⟩
set_option maxRecDepth 100000 in
theorem xc_320 : xm_cal xX 320 3 xM_J7_copyOfRange_39247 := ⟨rfl, xh6 (i := 227) rfl rfl, xh1 (i := 30) rfl rfl, ⟨by decide, by decide⟩, rfl, by decide⟩
set_option maxRecDepth 100000 in
theorem xc_321 : xm_cal xX 321 3 xM_J7_copyOfRangeByte_39247 := ⟨rfl, xh6 (i := 230) rfl rfl, xh1 (i := 30) rfl rfl, ⟨by decide, by decide⟩, rfl, by decide⟩
set_option maxRecDepth 100000 in
theorem xc_322 : xm_cal xX 322 3 xM_J8_newLength_cabcc := ⟨rfl, xh6 (i := 113) rfl rfl, xh1 (i := 29) rfl rfl, ⟨by decide, by decide⟩, rfl, by decide⟩
set_option maxRecDepth 100000 in
theorem xc_323 : xm_cal xX 323 2 xM_J8_hugeLength_7cf53 := ⟨rfl, xh6 (i := 118) rfl rfl, xh1 (i := 29) rfl rfl, ⟨by decide, by decide⟩, rfl, by decide⟩
set_option maxRecDepth 100000 in
theorem xc_324 : xm_cal xX 324 3 xM_J3_checkIndex_8e157 := ⟨rfl, xh3 (i := 205) rfl rfl, xh1 (i := 23) rfl rfl, ⟨by decide, by decide⟩, rfl, by decide⟩
set_option maxRecDepth 100000 in
theorem xc_325 : xm_cal xX 325 4 xM_J3_checkFromToIndex_8c36e := ⟨rfl, xh6 (i := 148) rfl rfl, xh1 (i := 23) rfl rfl, ⟨by decide, by decide⟩, rfl, by decide⟩
set_option maxRecDepth 100000 in
theorem xc_326 : xm_cal xX 326 4 xM_J3_checkFromIndexSize_8c36e := ⟨rfl, xh4 (i := 72) rfl rfl, xh1 (i := 23) rfl rfl, ⟨by decide, by decide⟩, rfl, by decide⟩
set_option maxRecDepth 100000 in
theorem xc_327 : xm_cal xX 327 3 xM_L_load := ⟨rfl, xh3 (i := 67) rfl rfl, xh1 (i := 0) rfl rfl, ⟨by decide, by decide⟩, rfl, by decide⟩
set_option maxRecDepth 100000 in
theorem xc_328 : xm_cal xX 328 3 xM_L_floor := ⟨rfl, xh4 (i := 128) rfl rfl, xh1 (i := 0) rfl rfl, ⟨by decide, by decide⟩, rfl, by decide⟩
set_option maxRecDepth 100000 in
theorem xc_329 : xm_cal xX 329 3 xM_L_bid := ⟨rfl, xh4 (i := 156) rfl rfl, xh1 (i := 0) rfl rfl, ⟨by decide, by decide⟩, rfl, by decide⟩
set_option maxRecDepth 100000 in
theorem xc_330 : xm_cal xX 330 3 xM_L_effectiveBid := ⟨rfl, xh4 (i := 168) rfl rfl, xh1 (i := 0) rfl rfl, ⟨by decide, by decide⟩, rfl, by decide⟩
set_option maxRecDepth 100000 in
theorem xc_331 : xm_cal xX 331 3 xM_L_multiplier := ⟨rfl, xh4 (i := 182) rfl rfl, xh1 (i := 0) rfl rfl, ⟨by decide, by decide⟩, rfl, by decide⟩
set_option maxRecDepth 100000 in
theorem xc_332 : xm_cal xX 332 3 xM_L_budget := ⟨rfl, xh4 (i := 189) rfl rfl, xh1 (i := 0) rfl rfl, ⟨by decide, by decide⟩, rfl, by decide⟩
set_option maxRecDepth 100000 in
theorem xc_333 : xm_cal xX 333 3 xM_L_spent := ⟨rfl, xh4 (i := 196) rfl rfl, xh1 (i := 0) rfl rfl, ⟨by decide, by decide⟩, rfl, by decide⟩
set_option maxRecDepth 100000 in
theorem xc_334 : xm_cal xX 334 3 xM_L_plan := ⟨rfl, xh4 (i := 203) rfl rfl, xh1 (i := 0) rfl rfl, ⟨by decide, by decide⟩, rfl, by decide⟩
set_option maxRecDepth 100000 in
theorem xc_335 : xm_cal xX 335 3 xM_L_mode := ⟨rfl, xh4 (i := 214) rfl rfl, xh1 (i := 0) rfl rfl, ⟨by decide, by decide⟩, rfl, by decide⟩
set_option maxRecDepth 100000 in
theorem xc_336 : xm_cal xX 336 5 xM_L_refusal := ⟨rfl, xh4 (i := 221) rfl rfl, xh1 (i := 0) rfl rfl, ⟨by decide, by decide⟩, rfl, by decide⟩
set_option maxRecDepth 100000 in
theorem xc_337 : xm_cal xX 337 5 xM_L_ranked := ⟨rfl, xh5 (i := 4) rfl rfl, xh1 (i := 0) rfl rfl, ⟨by decide, by decide⟩, rfl, by decide⟩
set_option maxRecDepth 100000 in
theorem xc_338 : xm_cal xX 338 5 xM_L_winner := ⟨rfl, xh5 (i := 23) rfl rfl, xh1 (i := 0) rfl rfl, ⟨by decide, by decide⟩, rfl, by decide⟩
set_option maxRecDepth 100000 in
theorem xc_339 : xm_cal xX 339 5 xM_L_price := ⟨rfl, xh5 (i := 45) rfl rfl, xh1 (i := 0) rfl rfl, ⟨by decide, by decide⟩, rfl, by decide⟩
set_option maxRecDepth 100000 in
theorem xc_340 : xm_cal xX 340 6 xM_L_leastBid := ⟨rfl, xh5 (i := 52) rfl rfl, xh1 (i := 0) rfl rfl, ⟨by decide, by decide⟩, rfl, by decide⟩
set_option maxRecDepth 100000 in
theorem xc_341 : xm_cal xX 341 5 xM_L_bestFloor := ⟨rfl, xh5 (i := 72) rfl rfl, xh1 (i := 0) rfl rfl, ⟨by decide, by decide⟩, rfl, by decide⟩
set_option maxRecDepth 100000 in
theorem xc_342 : xm_cal xX 342 5 xM_L_revenueAfter := ⟨rfl, xh5 (i := 92) rfl rfl, xh1 (i := 0) rfl rfl, ⟨by decide, by decide⟩, rfl, by decide⟩
set_option maxRecDepth 100000 in
theorem xc_343 : xm_cal xX 343 6 xM_L_multiplierAfter := ⟨rfl, xh5 (i := 122) rfl rfl, xh1 (i := 0) rfl rfl, ⟨by decide, by decide⟩, rfl, by decide⟩
set_option maxRecDepth 100000 in
theorem xc_344 : xm_cal xX 344 6 xM_L_bestMode := ⟨rfl, xh5 (i := 129) rfl rfl, xh1 (i := 0) rfl rfl, ⟨by decide, by decide⟩, rfl, by decide⟩
set_option maxRecDepth 100000 in
theorem xc_345 : xm_cal xX 345 5 xM_L_request := ⟨rfl, xh5 (i := 144) rfl rfl, xh1 (i := 0) rfl rfl, ⟨by decide, by decide⟩, rfl, by decide⟩
set_option maxRecDepth 100000 in
theorem xc_346 : xm_cal xX 346 3 xM_L_pass := ⟨rfl, xh5 (i := 173) rfl rfl, xh1 (i := 0) rfl rfl, ⟨by decide, by decide⟩, rfl, by decide⟩
set_option maxRecDepth 100000 in
theorem xc_347 : xm_cal xX 347 4 xM_L_convert := ⟨rfl, xh5 (i := 181) rfl rfl, xh1 (i := 0) rfl rfl, ⟨by decide, by decide⟩, rfl, by decide⟩
set_option maxRecDepth 100000 in
theorem xc_348 : xm_cal xX 348 3 xM_L_pause := ⟨rfl, xh5 (i := 201) rfl rfl, xh1 (i := 0) rfl rfl, ⟨by decide, by decide⟩, rfl, by decide⟩
set_option maxRecDepth 100000 in
theorem xc_349 : xm_cal xX 349 3 xM_L_resume := ⟨rfl, xh5 (i := 210) rfl rfl, xh1 (i := 0) rfl rfl, ⟨by decide, by decide⟩, rfl, by decide⟩
set_option maxRecDepth 100000 in
theorem xc_350 : xm_cal xX 350 4 xM_L_setBid := ⟨rfl, xh5 (i := 218) rfl rfl, xh1 (i := 0) rfl rfl, ⟨by decide, by decide⟩, rfl, by decide⟩
set_option maxRecDepth 100000 in
theorem xc_351 : xm_cal xX 351 4 xM_L_setBudget := ⟨rfl, xh5 (i := 225) rfl rfl, xh1 (i := 0) rfl rfl, ⟨by decide, by decide⟩, rfl, by decide⟩
set_option maxRecDepth 100000 in
theorem xc_352 : xm_cal xX 352 4 xM_L_setMode := ⟨rfl, xh5 (i := 233) rfl rfl, xh1 (i := 0) rfl rfl, ⟨by decide, by decide⟩, rfl, by decide⟩
set_option maxRecDepth 100000 in
theorem xc_353 : xm_cal xX 353 4 xM_L_setFloor := ⟨rfl, xh6 (i := 0) rfl rfl, xh1 (i := 0) rfl rfl, ⟨by decide, by decide⟩, rfl, by decide⟩
set_option maxRecDepth 100000 in
theorem xc_354 : xm_cal xX 354 4 xM_L_impression := ⟨rfl, xh6 (i := 7) rfl rfl, xh1 (i := 0) rfl rfl, ⟨by decide, by decide⟩, rfl, by decide⟩
set_option maxRecDepth 100000 in
theorem xc_355 : xm_cal xX 355 3 xM_L_reach := ⟨rfl, xh6 (i := 19) rfl rfl, xh1 (i := 0) rfl rfl, ⟨by decide, by decide⟩, rfl, by decide⟩
set_option maxRecDepth 100000 in
theorem xc_356 : xm_cal xX 356 3 xM_L_frequency := ⟨rfl, xh6 (i := 36) rfl rfl, xh1 (i := 0) rfl rfl, ⟨by decide, by decide⟩, rfl, by decide⟩
set_option maxRecDepth 100000 in
theorem xc_357 : xm_cal xX 357 4 xM_L_recent := ⟨rfl, xh6 (i := 46) rfl rfl, xh1 (i := 0) rfl rfl, ⟨by decide, by decide⟩, rfl, by decide⟩
set_option maxRecDepth 100000 in
theorem xc_358 : xm_cal xX 358 3 xM_L_meanPrice := ⟨rfl, xh6 (i := 53) rfl rfl, xh1 (i := 0) rfl rfl, ⟨by decide, by decide⟩, rfl, by decide⟩
set_option maxRecDepth 100000 in
theorem xc_359 : xm_cal xX 359 4 xM_L_credit := ⟨rfl, xh6 (i := 60) rfl rfl, xh1 (i := 0) rfl rfl, ⟨by decide, by decide⟩, rfl, by decide⟩
set_option maxRecDepth 100000 in
theorem xc_360 : xm_cal xX 360 3 xM_L_write := ⟨rfl, xh6 (i := 72) rfl rfl, xh1 (i := 0) rfl rfl, ⟨by decide, by decide⟩, rfl, by decide⟩
set_option maxRecDepth 100000 in
theorem xc_361 : xm_cal xX 361 3 xM_L_written := ⟨rfl, xh7 (i := 81) rfl rfl, xh1 (i := 0) rfl rfl, ⟨by decide, by decide⟩, rfl, by decide⟩
def xm_mk2 (own : String) (idx kind y n t : Nat) : Prop := match kind with
  | 0 => ∃ N, xm_cal xX y n N ∧ N.2.1 = [] ∧ Cond.methodLink own idx N.2.2.1 ∈ xgd ∧ Cond.static N.2.2.1 ∈ xgd
  | 3 => ∃ N host, xm_cal xX y n N ∧ N.2.1 = [] ∧ Cond.methodLinkNest own idx N.2.2.1 host ∈ xnw ∧ Cond.static N.2.2.1 ∈ xgd
  | 10 => ∃ N x r, xm_cal xX y n N ∧ N.2.1 = x :: r ∧ Cond.methodLink own idx N.2.2.1 ∈ xgd ∧ Cond.static N.2.2.1 ∈ xgd
  | 9 => Cond.methodLink own idx arraycopyName ∈ xgd ∧ Cond.native arraycopyName ∈ xgd ∧ Cond.static arraycopyName ∈ xgd ∧ Cond.initialized "java/lang/System" ∈ xgd ∧ (y = 100 ∨ y = 101 ∨ y = 102)
  | 11 => Cond.methodLink own idx Lib.Math.max.name ∈ xgd ∧ Cond.static Lib.Math.max.name ∈ xgd ∧ Cond.initialized "java/lang/Math" ∈ xgd ∧ Cond.code Lib.Math.max.name Lib.Math.max.code 2 (some .int) ∈ xgd
  | 12 => Cond.methodLink own idx Lib.Math.min.name ∈ xgd ∧ Cond.static Lib.Math.min.name ∈ xgd ∧ Cond.initialized "java/lang/Math" ∈ xgd ∧ Cond.code Lib.Math.min.name Lib.Math.min.code 2 (some .int) ∈ xgd
  | 1 => ∃ N q, xm_cal xX y n N ∧ N.2.1 = [] ∧ xcl[t]? = some q ∧ t < 14 ∧ Cond.methodLink own idx N.2.2.1 ∈ xgd ∧ Cond.instanceMethod N.2.2.1 ∈ xgd ∧ Cond.selects q.1 N.2.2.1 N.2.2.1 ∈ xgd
  | 6 => ∃ (N : xm_M) (q : vw_C) (x : MethodName), xm_cal xX y n N ∧ N.2.1 = [] ∧ xcl[t]? = some q ∧ t < 14 ∧ Cond.methodLink own idx x ∈ xgd ∧ Cond.sameMethod x.cls N.2.2.1.cls x.name x.desc ∈ xgd ∧ Cond.selects q.1 x N.2.2.1 ∈ xgd ∧ Cond.instanceMethod N.2.2.1 ∈ xgd ∧ N.2.2.1.name = x.name ∧ N.2.2.1.desc = x.desc
  | 2 => ∃ N, xm_cal xX y n N ∧ N.2.1 = [] ∧ N.2.2.2.2.2 = none ∧ N.2.2.1.name = "<init>" ∧ Cond.methodLink own idx N.2.2.1 ∈ xgd ∧ Cond.instanceMethod N.2.2.1 ∈ xgd
  | 4 => ∃ N host, xm_cal xX y n N ∧ N.2.1 = [] ∧ N.2.2.2.2.2 = none ∧ N.2.2.1.name = "<init>" ∧ Cond.methodLinkNest own idx N.2.2.1 host ∈ xnw ∧ Cond.instanceMethod N.2.2.1 ∈ xgd
  | 7 => ∃ (N : xm_M) (q : vw_C), xm_cal xX y n N ∧ N.2.1 = [] ∧ xcl[t]? = some q ∧ t < 14 ∧ N.2.2.1.name ≠ "<init>" ∧ Cond.methodLink own idx N.2.2.1 ∈ xgd ∧ Cond.sameMethod N.2.2.1.cls N.2.2.1.cls N.2.2.1.name N.2.2.1.desc ∈ xgd ∧ Cond.superclass own N.2.2.1.cls ∈ xgd ∧ Cond.instanceMethod N.2.2.1 ∈ xgd
  | 8 => Cond.methodLink own idx objectInit ∈ xgd ∧ Cond.instanceMethod objectInit ∈ xgd ∧ Cond.code objectInit ⟨#[0xb1]⟩ 1 none ∈ xgd
  | _ => False
def xm_mq (q : Nat × Nat × Nat × Nat × Nat × Nat) : Prop := xm_mk2 (xon.getD q.1 "") q.2.1 q.2.2.1 q.2.2.2.1 q.2.2.2.2.1 q.2.2.2.2.2
set_option maxRecDepth 100000 in
theorem xML_p0_0 : xm_mq (0, 1, 8, 0, 0, 0) := ⟨xh1 (i := 110) rfl rfl, xh1 (i := 38) rfl rfl, xh1 (i := 39) rfl rfl⟩
set_option maxRecDepth 100000 in
theorem xML_p0_1 : xm_mq (1, 3, 8, 0, 0, 0) := ⟨xh2 (i := 139) rfl rfl, xh1 (i := 38) rfl rfl, xh1 (i := 39) rfl rfl⟩
set_option maxRecDepth 100000 in
theorem xML_p0_2 : xm_mq (1, 27, 3, 124, 2, 0) := ⟨_, _, xc_124, rfl, xn6 (i := 69) rfl rfl, xh6 (i := 42) rfl rfl⟩
set_option maxRecDepth 100000 in
theorem xML_p0_3 : xm_mq (2, 3, 8, 0, 0, 0) := ⟨xh1 (i := 228) rfl rfl, xh1 (i := 38) rfl rfl, xh1 (i := 39) rfl rfl⟩
set_option maxRecDepth 100000 in
theorem xML_p0_4 : xm_mq (2, 11, 2, 56, 0, 7) := ⟨_, xc_56, rfl, rfl, rfl, xh1 (i := 230) rfl rfl, xh1 (i := 82) rfl rfl⟩
set_option maxRecDepth 100000 in
theorem xML_p0_5 : xm_mq (2, 20, 4, 58, 0, 8) := ⟨_, _, xc_58, rfl, rfl, rfl, xn1 (i := 233) rfl rfl, xh1 (i := 234) rfl rfl⟩
set_option maxRecDepth 100000 in
theorem xML_p0_6 : xm_mq (2, 25, 1, 59, 1, 8) := ⟨_, _, xc_59, rfl, rfl, by decide, xh2 (i := 52) rfl rfl, xh2 (i := 53) rfl rfl, xh2 (i := 54) rfl rfl⟩
set_option maxRecDepth 100000 in
theorem xML_p0_7 : xm_mq (2, 31, 4, 30, 0, 5) := ⟨_, _, xc_30, rfl, rfl, rfl, xn2 (i := 62) rfl rfl, xh2 (i := 63) rfl rfl⟩
set_option maxRecDepth 100000 in
theorem xML_p0_8 : xm_mq (2, 58, 0, 8, 2, 0) := ⟨_, xc_8, rfl, xh4 (i := 177) rfl rfl, xh4 (i := 178) rfl rfl⟩
set_option maxRecDepth 100000 in
theorem xML_p0_9 : xm_mq (2, 81, 1, 12, 1, 3) := ⟨_, _, xc_12, rfl, rfl, by decide, xh5 (i := 114) rfl rfl, xh5 (i := 116) rfl rfl, xg_sel (i := 32) rfl⟩
set_option maxRecDepth 100000 in
theorem xML_p0_10 : xm_mq (2, 88, 1, 60, 0, 8) := ⟨_, _, xc_60, rfl, rfl, by decide, xh5 (i := 119) rfl rfl, xh2 (i := 57) rfl rfl, xh2 (i := 58) rfl rfl⟩
set_option maxRecDepth 100000 in
theorem xML_p0_11 : xm_mq (2, 91, 1, 9, 1, 3) := ⟨_, _, xc_9, rfl, rfl, by decide, xh5 (i := 1) rfl rfl, xh4 (i := 209) rfl rfl, xh4 (i := 210) rfl rfl⟩
set_option maxRecDepth 100000 in
theorem xML_p0_12 : xm_mq (2, 95, 11, 0, 0, 0) := ⟨xh5 (i := 40) rfl rfl, xh5 (i := 41) rfl rfl, xh1 (i := 21) rfl rfl, xh5 (i := 42) rfl rfl⟩
set_option maxRecDepth 100000 in
theorem xML_p0_13 : xm_mq (2, 100, 12, 0, 0, 0) := ⟨xh5 (i := 118) rfl rfl, xh3 (i := 155) rfl rfl, xh1 (i := 21) rfl rfl, xh3 (i := 156) rfl rfl⟩
set_option maxRecDepth 100000 in
theorem xML_p0_14 : xm_mq (2, 130, 1, 10, 1, 3) := ⟨_, _, xc_10, rfl, rfl, by decide, xh4 (i := 237) rfl rfl, xh4 (i := 238) rfl rfl, xh4 (i := 239) rfl rfl⟩
set_option maxRecDepth 100000 in
theorem xML_p0_15 : xm_mq (2, 136, 1, 13, 1, 3) := ⟨_, _, xc_13, rfl, rfl, by decide, xh5 (i := 14) rfl rfl, xh4 (i := 230) rfl rfl, xh4 (i := 231) rfl rfl⟩
set_option maxRecDepth 100000 in
theorem xML_p0_16 : xm_mq (2, 142, 1, 7, 1, 3) := ⟨_, _, xc_7, rfl, rfl, by decide, xh5 (i := 15) rfl rfl, xh4 (i := 174) rfl rfl, xh4 (i := 175) rfl rfl⟩
set_option maxRecDepth 100000 in
theorem xML_p0_17 : xm_mq (2, 145, 1, 14, 4, 3) := ⟨_, _, xc_14, rfl, rfl, by decide, xh5 (i := 16) rfl rfl, xh4 (i := 234) rfl rfl, xh4 (i := 235) rfl rfl⟩
set_option maxRecDepth 100000 in
theorem xML_p0_18 : xm_mq (2, 149, 1, 16, 1, 3) := ⟨_, _, xc_16, rfl, rfl, by decide, xh5 (i := 17) rfl rfl, xh5 (i := 19) rfl rfl, xg_sel (i := 23) rfl⟩
set_option maxRecDepth 100000 in
theorem xML_p0_19 : xm_mq (2, 158, 1, 18, 2, 3) := ⟨_, _, xc_18, rfl, rfl, by decide, xh5 (i := 36) rfl rfl, xh5 (i := 38) rfl rfl, xg_sel (i := 25) rfl⟩
set_option maxRecDepth 100000 in
theorem xML_p0_20 : xm_mq (2, 167, 1, 15, 3, 3) := ⟨_, _, xc_15, rfl, rfl, by decide, xh5 (i := 65) rfl rfl, xh5 (i := 11) rfl rfl, xh5 (i := 12) rfl rfl⟩
set_option maxRecDepth 100000 in
theorem xML_p0_21 : xm_mq (2, 171, 1, 17, 2, 3) := ⟨_, _, xc_17, rfl, rfl, by decide, xh5 (i := 85) rfl rfl, xh5 (i := 33) rfl rfl, xh5 (i := 34) rfl rfl⟩
set_option maxRecDepth 100000 in
theorem xML_p0_22 : xm_mq (2, 175, 1, 20, 2, 3) := ⟨_, _, xc_20, rfl, rfl, by decide, xh5 (i := 106) rfl rfl, xh5 (i := 108) rfl rfl, xg_sel (i := 31) rfl⟩
set_option maxRecDepth 100000 in
theorem xML_p0_23 : xm_mq (2, 182, 1, 22, 2, 3) := ⟨_, _, xc_22, rfl, rfl, by decide, xh5 (i := 66) rfl rfl, xh5 (i := 68) rfl rfl, xg_sel (i := 27) rfl⟩
set_option maxRecDepth 100000 in
theorem xML_p0_24 : xm_mq (2, 185, 1, 25, 2, 3) := ⟨_, _, xc_25, rfl, rfl, by decide, xh5 (i := 81) rfl rfl, xh5 (i := 83) rfl rfl, xg_sel (i := 28) rfl⟩
set_option maxRecDepth 100000 in
theorem xML_p0_25 : xm_mq (2, 188, 1, 24, 3, 3) := ⟨_, _, xc_24, rfl, rfl, by decide, xh5 (i := 86) rfl rfl, xh5 (i := 88) rfl rfl, xg_sel (i := 29) rfl⟩
set_option maxRecDepth 100000 in
theorem xML_p0_26 : xm_mq (3, 3, 8, 0, 0, 0) := ⟨xh2 (i := 164) rfl rfl, xh1 (i := 38) rfl rfl, xh1 (i := 39) rfl rfl⟩
set_option maxRecDepth 100000 in
theorem xML_p0_27 : xm_mq (3, 17, 4, 58, 0, 8) := ⟨_, _, xc_58, rfl, rfl, rfl, xn2 (i := 167) rfl rfl, xh1 (i := 234) rfl rfl⟩
set_option maxRecDepth 100000 in
theorem xML_p0_28 : xm_mq (3, 25, 1, 62, 1, 8) := ⟨_, _, xc_62, rfl, rfl, by decide, xh3 (i := 30) rfl rfl, xh3 (i := 31) rfl rfl, xh3 (i := 32) rfl rfl⟩
set_option maxRecDepth 100000 in
theorem xML_p0_29 : xm_mq (3, 29, 12, 0, 0, 0) := ⟨xh5 (i := 170) rfl rfl, xh3 (i := 155) rfl rfl, xh1 (i := 21) rfl rfl, xh3 (i := 156) rfl rfl⟩
set_option maxRecDepth 100000 in
theorem xML_p0_30 : xm_mq (4, 3, 8, 0, 0, 0) := ⟨xh2 (i := 65) rfl rfl, xh1 (i := 38) rfl rfl, xh1 (i := 39) rfl rfl⟩
set_option maxRecDepth 100000 in
theorem xML_p0_31 : xm_mq (4, 27, 0, 269, 1, 0) := ⟨_, xc_269, rfl, xh6 (i := 28) rfl rfl, xh6 (i := 29) rfl rfl⟩
set_option maxRecDepth 100000 in
theorem xML_p0_32 : xm_mq (5, 3, 8, 0, 0, 0) := ⟨xh1 (i := 45) rfl rfl, xh1 (i := 38) rfl rfl, xh1 (i := 39) rfl rfl⟩
set_option maxRecDepth 100000 in
theorem xML_p0_33 : xm_mq (5, 11, 4, 64, 0, 10) := ⟨_, _, xc_64, rfl, rfl, rfl, xn1 (i := 48) rfl rfl, xh1 (i := 49) rfl rfl⟩
set_option maxRecDepth 100000 in
theorem xML_p0_34 : xm_mq (5, 20, 2, 56, 0, 7) := ⟨_, xc_56, rfl, rfl, rfl, xh1 (i := 81) rfl rfl, xh1 (i := 82) rfl rfl⟩
set_option maxRecDepth 100000 in
theorem xML_p0_35 : xm_mq (5, 32, 1, 57, 0, 7) := ⟨_, _, xc_57, rfl, rfl, by decide, xh3 (i := 149) rfl rfl, xh1 (i := 147) rfl rfl, xh1 (i := 148) rfl rfl⟩
set_option maxRecDepth 100000 in
theorem xML_p0_36 : xm_mq (5, 35, 1, 66, 1, 10) := ⟨_, _, xc_66, rfl, rfl, by decide, xh3 (i := 150) rfl rfl, xh3 (i := 151) rfl rfl, xh3 (i := 152) rfl rfl⟩
set_option maxRecDepth 100000 in
theorem xML_p0_37 : xm_mq (5, 42, 1, 38, 0, 6) := ⟨_, _, xc_38, rfl, rfl, by decide, xh3 (i := 169) rfl rfl, xh3 (i := 171) rfl rfl, xg_sel (i := 3) rfl⟩
set_option maxRecDepth 100000 in
theorem xML_p0_38 : xm_mq (5, 48, 1, 70, 1, 10) := ⟨_, _, xc_70, rfl, rfl, by decide, xh3 (i := 174) rfl rfl, xh3 (i := 175) rfl rfl, xh3 (i := 176) rfl rfl⟩
set_option maxRecDepth 100000 in
theorem xML_p0_39 : xm_mq (5, 52, 1, 39, 0, 6) := ⟨_, _, xc_39, rfl, rfl, by decide, xh3 (i := 225) rfl rfl, xh3 (i := 227) rfl rfl, xg_sel (i := 4) rfl⟩
def xML_0 : List (Nat × Nat × Nat × Nat × Nat × Nat) := [(0, 1, 8, 0, 0, 0), (1, 3, 8, 0, 0, 0), (1, 27, 3, 124, 2, 0), (2, 3, 8, 0, 0, 0), (2, 11, 2, 56, 0, 7), (2, 20, 4, 58, 0, 8), (2, 25, 1, 59, 1, 8), (2, 31, 4, 30, 0, 5), (2, 58, 0, 8, 2, 0), (2, 81, 1, 12, 1, 3), (2, 88, 1, 60, 0, 8), (2, 91, 1, 9, 1, 3), (2, 95, 11, 0, 0, 0), (2, 100, 12, 0, 0, 0), (2, 130, 1, 10, 1, 3), (2, 136, 1, 13, 1, 3), (2, 142, 1, 7, 1, 3), (2, 145, 1, 14, 4, 3), (2, 149, 1, 16, 1, 3), (2, 158, 1, 18, 2, 3), (2, 167, 1, 15, 3, 3), (2, 171, 1, 17, 2, 3), (2, 175, 1, 20, 2, 3), (2, 182, 1, 22, 2, 3), (2, 185, 1, 25, 2, 3), (2, 188, 1, 24, 3, 3), (3, 3, 8, 0, 0, 0), (3, 17, 4, 58, 0, 8), (3, 25, 1, 62, 1, 8), (3, 29, 12, 0, 0, 0), (4, 3, 8, 0, 0, 0), (4, 27, 0, 269, 1, 0), (5, 3, 8, 0, 0, 0), (5, 11, 4, 64, 0, 10), (5, 20, 2, 56, 0, 7), (5, 32, 1, 57, 0, 7), (5, 35, 1, 66, 1, 10), (5, 42, 1, 38, 0, 6), (5, 48, 1, 70, 1, 10), (5, 52, 1, 39, 0, 6)]
theorem xML_ok0 : ∀ q ∈ xML_0, xm_mq q := List.forall_mem_cons.mpr ⟨xML_p0_0, List.forall_mem_cons.mpr ⟨xML_p0_1, List.forall_mem_cons.mpr ⟨xML_p0_2, List.forall_mem_cons.mpr ⟨xML_p0_3, List.forall_mem_cons.mpr ⟨xML_p0_4, List.forall_mem_cons.mpr ⟨xML_p0_5, List.forall_mem_cons.mpr ⟨xML_p0_6, List.forall_mem_cons.mpr ⟨xML_p0_7, List.forall_mem_cons.mpr ⟨xML_p0_8, List.forall_mem_cons.mpr ⟨xML_p0_9, List.forall_mem_cons.mpr ⟨xML_p0_10, List.forall_mem_cons.mpr ⟨xML_p0_11, List.forall_mem_cons.mpr ⟨xML_p0_12, List.forall_mem_cons.mpr ⟨xML_p0_13, List.forall_mem_cons.mpr ⟨xML_p0_14, List.forall_mem_cons.mpr ⟨xML_p0_15, List.forall_mem_cons.mpr ⟨xML_p0_16, List.forall_mem_cons.mpr ⟨xML_p0_17, List.forall_mem_cons.mpr ⟨xML_p0_18, List.forall_mem_cons.mpr ⟨xML_p0_19, List.forall_mem_cons.mpr ⟨xML_p0_20, List.forall_mem_cons.mpr ⟨xML_p0_21, List.forall_mem_cons.mpr ⟨xML_p0_22, List.forall_mem_cons.mpr ⟨xML_p0_23, List.forall_mem_cons.mpr ⟨xML_p0_24, List.forall_mem_cons.mpr ⟨xML_p0_25, List.forall_mem_cons.mpr ⟨xML_p0_26, List.forall_mem_cons.mpr ⟨xML_p0_27, List.forall_mem_cons.mpr ⟨xML_p0_28, List.forall_mem_cons.mpr ⟨xML_p0_29, List.forall_mem_cons.mpr ⟨xML_p0_30, List.forall_mem_cons.mpr ⟨xML_p0_31, List.forall_mem_cons.mpr ⟨xML_p0_32, List.forall_mem_cons.mpr ⟨xML_p0_33, List.forall_mem_cons.mpr ⟨xML_p0_34, List.forall_mem_cons.mpr ⟨xML_p0_35, List.forall_mem_cons.mpr ⟨xML_p0_36, List.forall_mem_cons.mpr ⟨xML_p0_37, List.forall_mem_cons.mpr ⟨xML_p0_38, List.forall_mem_cons.mpr ⟨xML_p0_39, fun _ h => absurd h List.not_mem_nil⟩⟩⟩⟩⟩⟩⟩⟩⟩⟩⟩⟩⟩⟩⟩⟩⟩⟩⟩⟩⟩⟩⟩⟩⟩⟩⟩⟩⟩⟩⟩⟩⟩⟩⟩⟩⟩⟩⟩⟩
set_option maxRecDepth 100000 in
theorem xML_p1_0 : xm_mq (5, 56, 1, 40, 0, 6) := ⟨_, _, xc_40, rfl, rfl, by decide, xh4 (i := 11) rfl rfl, xh4 (i := 13) rfl rfl, xg_sel (i := 10) rfl⟩
set_option maxRecDepth 100000 in
theorem xML_p1_1 : xm_mq (5, 61, 1, 41, 0, 6) := ⟨_, _, xc_41, rfl, rfl, by decide, xh4 (i := 16) rfl rfl, xh4 (i := 18) rfl rfl, xg_sel (i := 11) rfl⟩
set_option maxRecDepth 100000 in
theorem xML_p1_2 : xm_mq (5, 66, 1, 42, 0, 6) := ⟨_, _, xc_42, rfl, rfl, by decide, xh4 (i := 21) rfl rfl, xh4 (i := 23) rfl rfl, xg_sel (i := 12) rfl⟩
set_option maxRecDepth 100000 in
theorem xML_p1_3 : xm_mq (5, 71, 1, 43, 0, 6) := ⟨_, _, xc_43, rfl, rfl, by decide, xh4 (i := 89) rfl rfl, xh4 (i := 91) rfl rfl, xg_sel (i := 15) rfl⟩
set_option maxRecDepth 100000 in
theorem xML_p1_4 : xm_mq (5, 76, 1, 45, 0, 6) := ⟨_, _, xc_45, rfl, rfl, by decide, xh4 (i := 102) rfl rfl, xh4 (i := 104) rfl rfl, xg_sel (i := 18) rfl⟩
set_option maxRecDepth 100000 in
theorem xML_p1_5 : xm_mq (5, 80, 1, 46, 0, 6) := ⟨_, _, xc_46, rfl, rfl, by decide, xh4 (i := 114) rfl rfl, xh4 (i := 116) rfl rfl, xg_sel (i := 20) rfl⟩
set_option maxRecDepth 100000 in
theorem xML_p1_6 : xm_mq (5, 82, 1, 54, 0, 6) := ⟨_, _, xc_54, rfl, rfl, by decide, xh3 (i := 234) rfl rfl, xh3 (i := 236) rfl rfl, xg_sel (i := 6) rfl⟩
set_option maxRecDepth 100000 in
theorem xML_p1_7 : xm_mq (5, 85, 1, 67, 0, 10) := ⟨_, _, xc_67, rfl, rfl, by decide, xh3 (i := 229) rfl rfl, xh3 (i := 158) rfl rfl, xh3 (i := 159) rfl rfl⟩
set_option maxRecDepth 100000 in
theorem xML_p1_8 : xm_mq (5, 88, 1, 51, 2, 6) := ⟨_, _, xc_51, rfl, rfl, by decide, xh3 (i := 230) rfl rfl, xh3 (i := 232) rfl rfl, xg_sel (i := 5) rfl⟩
set_option maxRecDepth 100000 in
theorem xML_p1_9 : xm_mq (5, 98, 1, 53, 0, 6) := ⟨_, _, xc_53, rfl, rfl, by decide, xh4 (i := 6) rfl rfl, xh4 (i := 8) rfl rfl, xg_sel (i := 9) rfl⟩
set_option maxRecDepth 100000 in
theorem xML_p1_10 : xm_mq (5, 110, 1, 52, 2, 6) := ⟨_, _, xc_52, rfl, rfl, by decide, xh4 (i := 2) rfl rfl, xh4 (i := 4) rfl rfl, xg_sel (i := 8) rfl⟩
set_option maxRecDepth 100000 in
theorem xML_p1_11 : xm_mq (5, 113, 1, 55, 1, 6) := ⟨_, _, xc_55, rfl, rfl, by decide, xh3 (i := 238) rfl rfl, xh4 (i := 0) rfl rfl, xg_sel (i := 7) rfl⟩
set_option maxRecDepth 100000 in
theorem xML_p1_12 : xm_mq (5, 124, 1, 49, 0, 6) := ⟨_, _, xc_49, rfl, rfl, by decide, xh4 (i := 25) rfl rfl, xh4 (i := 27) rfl rfl, xg_sel (i := 13) rfl⟩
set_option maxRecDepth 100000 in
theorem xML_p1_13 : xm_mq (5, 128, 1, 47, 1, 6) := ⟨_, _, xc_47, rfl, rfl, by decide, xh4 (i := 29) rfl rfl, xh4 (i := 31) rfl rfl, xg_sel (i := 14) rfl⟩
set_option maxRecDepth 100000 in
theorem xML_p1_14 : xm_mq (5, 131, 1, 71, 0, 10) := ⟨_, _, xc_71, rfl, rfl, by decide, xh4 (i := 34) rfl rfl, xh4 (i := 35) rfl rfl, xh4 (i := 36) rfl rfl⟩
set_option maxRecDepth 100000 in
theorem xML_p1_15 : xm_mq (5, 151, 1, 50, 0, 6) := ⟨_, _, xc_50, rfl, rfl, by decide, xh4 (i := 93) rfl rfl, xh4 (i := 95) rfl rfl, xg_sel (i := 16) rfl⟩
set_option maxRecDepth 100000 in
theorem xML_p1_16 : xm_mq (5, 169, 1, 44, 0, 6) := ⟨_, _, xc_44, rfl, rfl, by decide, xh4 (i := 97) rfl rfl, xh4 (i := 99) rfl rfl, xg_sel (i := 17) rfl⟩
set_option maxRecDepth 100000 in
theorem xML_p1_17 : xm_mq (5, 185, 1, 48, 0, 6) := ⟨_, _, xc_48, rfl, rfl, by decide, xh4 (i := 106) rfl rfl, xh4 (i := 108) rfl rfl, xg_sel (i := 19) rfl⟩
set_option maxRecDepth 100000 in
theorem xML_p1_18 : xm_mq (6, 3, 8, 0, 0, 0) := ⟨xh1 (i := 84) rfl rfl, xh1 (i := 38) rfl rfl, xh1 (i := 39) rfl rfl⟩
set_option maxRecDepth 100000 in
theorem xML_p1_19 : xm_mq (6, 21, 4, 63, 0, 9) := ⟨_, _, xc_63, rfl, rfl, rfl, xn1 (i := 88) rfl rfl, xh1 (i := 89) rfl rfl⟩
set_option maxRecDepth 100000 in
theorem xML_p1_20 : xm_mq (6, 28, 4, 0, 0, 1) := ⟨_, _, xc_0, rfl, rfl, rfl, xn1 (i := 107) rfl rfl, xh1 (i := 108) rfl rfl⟩
set_option maxRecDepth 100000 in
theorem xML_p1_21 : xm_mq (6, 29, 1, 57, 0, 7) := ⟨_, _, xc_57, rfl, rfl, by decide, xh1 (i := 146) rfl rfl, xh1 (i := 147) rfl rfl, xh1 (i := 148) rfl rfl⟩
set_option maxRecDepth 100000 in
theorem xML_p1_22 : xm_mq (7, 3, 8, 0, 0, 0) := ⟨xh1 (i := 236) rfl rfl, xh1 (i := 38) rfl rfl, xh1 (i := 39) rfl rfl⟩
set_option maxRecDepth 100000 in
theorem xML_p1_23 : xm_mq (7, 76, 1, 60, 0, 8) := ⟨_, _, xc_60, rfl, rfl, by decide, xh2 (i := 56) rfl rfl, xh2 (i := 57) rfl rfl, xh2 (i := 58) rfl rfl⟩
set_option maxRecDepth 100000 in
theorem xML_p1_24 : xm_mq (7, 82, 9, 100, 0, 0) := ⟨xh3 (i := 34) rfl rfl, xh3 (i := 36) rfl rfl, xh3 (i := 35) rfl rfl, xh1 (i := 25) rfl rfl, Or.inl rfl⟩
set_option maxRecDepth 100000 in
theorem xML_p1_25 : xm_mq (7, 82, 9, 101, 0, 0) := ⟨xh3 (i := 34) rfl rfl, xh3 (i := 36) rfl rfl, xh3 (i := 35) rfl rfl, xh1 (i := 25) rfl rfl, Or.inr (Or.inl rfl)⟩
set_option maxRecDepth 100000 in
theorem xML_p1_26 : xm_mq (8, 1, 8, 0, 0, 0) := ⟨xh1 (i := 91) rfl rfl, xh1 (i := 38) rfl rfl, xh1 (i := 39) rfl rfl⟩
set_option maxRecDepth 100000 in
theorem xML_p1_27 : xm_mq (9, 3, 8, 0, 0, 0) := ⟨xh1 (i := 51) rfl rfl, xh1 (i := 38) rfl rfl, xh1 (i := 39) rfl rfl⟩
set_option maxRecDepth 100000 in
theorem xML_p1_28 : xm_mq (9, 19, 12, 0, 0, 0) := ⟨xh3 (i := 154) rfl rfl, xh3 (i := 155) rfl rfl, xh1 (i := 21) rfl rfl, xh3 (i := 156) rfl rfl⟩
set_option maxRecDepth 100000 in
theorem xML_p1_29 : xm_mq (9, 31, 1, 67, 0, 10) := ⟨_, _, xc_67, rfl, rfl, by decide, xh3 (i := 157) rfl rfl, xh3 (i := 158) rfl rfl, xh3 (i := 159) rfl rfl⟩
set_option maxRecDepth 100000 in
theorem xML_p1_30 : xm_mq (9, 37, 1, 68, 2, 10) := ⟨_, _, xc_68, rfl, rfl, by decide, xh3 (i := 161) rfl rfl, xh3 (i := 163) rfl rfl, xg_sel (i := 1) rfl⟩
set_option maxRecDepth 100000 in
theorem xML_p1_31 : xm_mq (9, 44, 1, 69, 0, 10) := ⟨_, _, xc_69, rfl, rfl, by decide, xh3 (i := 165) rfl rfl, xh3 (i := 167) rfl rfl, xg_sel (i := 2) rfl⟩
set_option maxRecDepth 100000 in
theorem xML_p1_32 : xm_mq (9, 50, 1, 272, 0, 12) := ⟨_, _, xc_272, rfl, rfl, by decide, xh3 (i := 178) rfl rfl, xh3 (i := 179) rfl rfl, xh3 (i := 180) rfl rfl⟩
set_option maxRecDepth 100000 in
theorem xML_p1_33 : xm_mq (9, 55, 1, 273, 1, 12) := ⟨_, _, xc_273, rfl, rfl, by decide, xh3 (i := 187) rfl rfl, xh3 (i := 188) rfl rfl, xh3 (i := 189) rfl rfl⟩
set_option maxRecDepth 100000 in
theorem xML_p1_34 : xm_mq (9, 59, 2, 270, 1, 12) := ⟨_, xc_270, rfl, rfl, rfl, xh4 (i := 40) rfl rfl, xh4 (i := 41) rfl rfl⟩
set_option maxRecDepth 100000 in
theorem xML_p1_35 : xm_mq (10, 1, 8, 0, 0, 0) := ⟨xh1 (i := 37) rfl rfl, xh1 (i := 38) rfl rfl, xh1 (i := 39) rfl rfl⟩
set_option maxRecDepth 100000 in
theorem xML_p1_36 : xm_mq (10, 9, 2, 36, 0, 6) := ⟨_, xc_36, rfl, rfl, rfl, xh1 (i := 42) rfl rfl, xh1 (i := 43) rfl rfl⟩
set_option maxRecDepth 100000 in
theorem xML_p1_37 : xm_mq (10, 18, 2, 5, 0, 3) := ⟨_, xc_5, rfl, rfl, rfl, xh1 (i := 225) rfl rfl, xh1 (i := 226) rfl rfl⟩
set_option maxRecDepth 100000 in
theorem xML_p1_38 : xm_mq (10, 25, 4, 58, 0, 8) := ⟨_, _, xc_58, rfl, rfl, rfl, xn2 (i := 133) rfl rfl, xh1 (i := 234) rfl rfl⟩
set_option maxRecDepth 100000 in
theorem xML_p1_39 : xm_mq (10, 32, 4, 1, 0, 2) := ⟨_, _, xc_1, rfl, rfl, rfl, xn2 (i := 136) rfl rfl, xh2 (i := 137) rfl rfl⟩
def xML_1 : List (Nat × Nat × Nat × Nat × Nat × Nat) := [(5, 56, 1, 40, 0, 6), (5, 61, 1, 41, 0, 6), (5, 66, 1, 42, 0, 6), (5, 71, 1, 43, 0, 6), (5, 76, 1, 45, 0, 6), (5, 80, 1, 46, 0, 6), (5, 82, 1, 54, 0, 6), (5, 85, 1, 67, 0, 10), (5, 88, 1, 51, 2, 6), (5, 98, 1, 53, 0, 6), (5, 110, 1, 52, 2, 6), (5, 113, 1, 55, 1, 6), (5, 124, 1, 49, 0, 6), (5, 128, 1, 47, 1, 6), (5, 131, 1, 71, 0, 10), (5, 151, 1, 50, 0, 6), (5, 169, 1, 44, 0, 6), (5, 185, 1, 48, 0, 6), (6, 3, 8, 0, 0, 0), (6, 21, 4, 63, 0, 9), (6, 28, 4, 0, 0, 1), (6, 29, 1, 57, 0, 7), (7, 3, 8, 0, 0, 0), (7, 76, 1, 60, 0, 8), (7, 82, 9, 100, 0, 0), (7, 82, 9, 101, 0, 0), (8, 1, 8, 0, 0, 0), (9, 3, 8, 0, 0, 0), (9, 19, 12, 0, 0, 0), (9, 31, 1, 67, 0, 10), (9, 37, 1, 68, 2, 10), (9, 44, 1, 69, 0, 10), (9, 50, 1, 272, 0, 12), (9, 55, 1, 273, 1, 12), (9, 59, 2, 270, 1, 12), (10, 1, 8, 0, 0, 0), (10, 9, 2, 36, 0, 6), (10, 18, 2, 5, 0, 3), (10, 25, 4, 58, 0, 8), (10, 32, 4, 1, 0, 2)]
theorem xML_ok1 : ∀ q ∈ xML_1, xm_mq q := List.forall_mem_cons.mpr ⟨xML_p1_0, List.forall_mem_cons.mpr ⟨xML_p1_1, List.forall_mem_cons.mpr ⟨xML_p1_2, List.forall_mem_cons.mpr ⟨xML_p1_3, List.forall_mem_cons.mpr ⟨xML_p1_4, List.forall_mem_cons.mpr ⟨xML_p1_5, List.forall_mem_cons.mpr ⟨xML_p1_6, List.forall_mem_cons.mpr ⟨xML_p1_7, List.forall_mem_cons.mpr ⟨xML_p1_8, List.forall_mem_cons.mpr ⟨xML_p1_9, List.forall_mem_cons.mpr ⟨xML_p1_10, List.forall_mem_cons.mpr ⟨xML_p1_11, List.forall_mem_cons.mpr ⟨xML_p1_12, List.forall_mem_cons.mpr ⟨xML_p1_13, List.forall_mem_cons.mpr ⟨xML_p1_14, List.forall_mem_cons.mpr ⟨xML_p1_15, List.forall_mem_cons.mpr ⟨xML_p1_16, List.forall_mem_cons.mpr ⟨xML_p1_17, List.forall_mem_cons.mpr ⟨xML_p1_18, List.forall_mem_cons.mpr ⟨xML_p1_19, List.forall_mem_cons.mpr ⟨xML_p1_20, List.forall_mem_cons.mpr ⟨xML_p1_21, List.forall_mem_cons.mpr ⟨xML_p1_22, List.forall_mem_cons.mpr ⟨xML_p1_23, List.forall_mem_cons.mpr ⟨xML_p1_24, List.forall_mem_cons.mpr ⟨xML_p1_25, List.forall_mem_cons.mpr ⟨xML_p1_26, List.forall_mem_cons.mpr ⟨xML_p1_27, List.forall_mem_cons.mpr ⟨xML_p1_28, List.forall_mem_cons.mpr ⟨xML_p1_29, List.forall_mem_cons.mpr ⟨xML_p1_30, List.forall_mem_cons.mpr ⟨xML_p1_31, List.forall_mem_cons.mpr ⟨xML_p1_32, List.forall_mem_cons.mpr ⟨xML_p1_33, List.forall_mem_cons.mpr ⟨xML_p1_34, List.forall_mem_cons.mpr ⟨xML_p1_35, List.forall_mem_cons.mpr ⟨xML_p1_36, List.forall_mem_cons.mpr ⟨xML_p1_37, List.forall_mem_cons.mpr ⟨xML_p1_38, List.forall_mem_cons.mpr ⟨xML_p1_39, fun _ h => absurd h List.not_mem_nil⟩⟩⟩⟩⟩⟩⟩⟩⟩⟩⟩⟩⟩⟩⟩⟩⟩⟩⟩⟩⟩⟩⟩⟩⟩⟩⟩⟩⟩⟩⟩⟩⟩⟩⟩⟩⟩⟩⟩⟩
set_option maxRecDepth 100000 in
theorem xML_p2_0 : xm_mq (10, 39, 2, 26, 0, 4) := ⟨_, xc_26, rfl, rfl, rfl, xh2 (i := 161) rfl rfl, xh2 (i := 162) rfl rfl⟩
set_option maxRecDepth 100000 in
theorem xML_p2_1 : xm_mq (10, 46, 2, 282, 0, 13) := ⟨_, xc_282, rfl, rfl, rfl, xh2 (i := 181) rfl rfl, xh2 (i := 182) rfl rfl⟩
set_option maxRecDepth 100000 in
theorem xML_p2_2 : xm_mq (10, 61, 1, 65, 1, 10) := ⟨_, _, xc_65, rfl, rfl, by decide, xh2 (i := 234) rfl rfl, xh2 (i := 235) rfl rfl, xh2 (i := 236) rfl rfl⟩
set_option maxRecDepth 100000 in
theorem xML_p2_3 : xm_mq (10, 65, 0, 130, 3, 0) := ⟨_, xc_130, rfl, xh3 (i := 73) rfl rfl, xh3 (i := 74) rfl rfl⟩
set_option maxRecDepth 100000 in
theorem xML_p2_4 : xm_mq (10, 69, 1, 37, 1, 6) := ⟨_, _, xc_37, rfl, rfl, by decide, xh3 (i := 145) rfl rfl, xh3 (i := 146) rfl rfl, xh3 (i := 147) rfl rfl⟩
set_option maxRecDepth 100000 in
theorem xML_p2_5 : xm_mq (10, 77, 1, 6, 1, 3) := ⟨_, _, xc_6, rfl, rfl, by decide, xh4 (i := 118) rfl rfl, xh4 (i := 119) rfl rfl, xh4 (i := 120) rfl rfl⟩
set_option maxRecDepth 100000 in
theorem xML_p2_6 : xm_mq (10, 81, 1, 29, 0, 4) := ⟨_, _, xc_29, rfl, rfl, by decide, xh4 (i := 122) rfl rfl, xh4 (i := 123) rfl rfl, xh4 (i := 124) rfl rfl⟩
set_option maxRecDepth 100000 in
theorem xML_p2_7 : xm_mq (10, 104, 1, 126, 1, 0) := ⟨_, _, xc_126, rfl, rfl, by decide, xh4 (i := 134) rfl rfl, xh4 (i := 136) rfl rfl, xg_sel (i := 21) rfl⟩
set_option maxRecDepth 100000 in
theorem xML_p2_8 : xm_mq (10, 114, 1, 125, 1, 0) := ⟨_, _, xc_125, rfl, rfl, by decide, xh4 (i := 161) rfl rfl, xh4 (i := 163) rfl rfl, xg_sel (i := 22) rfl⟩
set_option maxRecDepth 100000 in
theorem xML_p2_9 : xm_mq (10, 120, 1, 7, 1, 3) := ⟨_, _, xc_7, rfl, rfl, by decide, xh4 (i := 173) rfl rfl, xh4 (i := 174) rfl rfl, xh4 (i := 175) rfl rfl⟩
set_option maxRecDepth 100000 in
theorem xML_p2_10 : xm_mq (10, 133, 1, 9, 1, 3) := ⟨_, _, xc_9, rfl, rfl, by decide, xh4 (i := 208) rfl rfl, xh4 (i := 209) rfl rfl, xh4 (i := 210) rfl rfl⟩
set_option maxRecDepth 100000 in
theorem xML_p2_11 : xm_mq (10, 142, 0, 129, 1, 0) := ⟨_, xc_129, rfl, xh4 (i := 226) rfl rfl, xh4 (i := 227) rfl rfl⟩
set_option maxRecDepth 100000 in
theorem xML_p2_12 : xm_mq (10, 145, 1, 13, 1, 3) := ⟨_, _, xc_13, rfl, rfl, by decide, xh4 (i := 229) rfl rfl, xh4 (i := 230) rfl rfl, xh4 (i := 231) rfl rfl⟩
set_option maxRecDepth 100000 in
theorem xML_p2_13 : xm_mq (10, 148, 1, 14, 4, 3) := ⟨_, _, xc_14, rfl, rfl, by decide, xh4 (i := 233) rfl rfl, xh4 (i := 234) rfl rfl, xh4 (i := 235) rfl rfl⟩
set_option maxRecDepth 100000 in
theorem xML_p2_14 : xm_mq (10, 159, 1, 15, 3, 3) := ⟨_, _, xc_15, rfl, rfl, by decide, xh5 (i := 10) rfl rfl, xh5 (i := 11) rfl rfl, xh5 (i := 12) rfl rfl⟩
set_option maxRecDepth 100000 in
theorem xML_p2_15 : xm_mq (10, 168, 1, 127, 1, 0) := ⟨_, _, xc_127, rfl, rfl, by decide, xh5 (i := 28) rfl rfl, xh5 (i := 30) rfl rfl, xg_sel (i := 24) rfl⟩
set_option maxRecDepth 100000 in
theorem xML_p2_16 : xm_mq (10, 171, 1, 17, 2, 3) := ⟨_, _, xc_17, rfl, rfl, by decide, xh5 (i := 32) rfl rfl, xh5 (i := 33) rfl rfl, xh5 (i := 34) rfl rfl⟩
set_option maxRecDepth 100000 in
theorem xML_p2_17 : xm_mq (10, 184, 1, 128, 1, 0) := ⟨_, _, xc_128, rfl, rfl, by decide, xh5 (i := 57) rfl rfl, xh5 (i := 59) rfl rfl, xg_sel (i := 26) rfl⟩
set_option maxRecDepth 100000 in
theorem xML_p2_18 : xm_mq (10, 187, 1, 21, 4, 3) := ⟨_, _, xc_21, rfl, rfl, by decide, xh5 (i := 61) rfl rfl, xh5 (i := 62) rfl rfl, xh5 (i := 63) rfl rfl⟩
set_option maxRecDepth 100000 in
theorem xML_p2_19 : xm_mq (10, 190, 1, 23, 3, 3) := ⟨_, _, xc_23, rfl, rfl, by decide, xh5 (i := 77) rfl rfl, xh5 (i := 78) rfl rfl, xh5 (i := 79) rfl rfl⟩
set_option maxRecDepth 100000 in
theorem xML_p2_20 : xm_mq (10, 194, 1, 62, 1, 8) := ⟨_, _, xc_62, rfl, rfl, by decide, xh5 (i := 97) rfl rfl, xh3 (i := 31) rfl rfl, xh3 (i := 32) rfl rfl⟩
set_option maxRecDepth 100000 in
theorem xML_p2_21 : xm_mq (10, 198, 1, 98, 3, 0) := ⟨_, _, xc_98, rfl, rfl, by decide, xh5 (i := 98) rfl rfl, xh5 (i := 100) rfl rfl, xg_sel (i := 30) rfl⟩
set_option maxRecDepth 100000 in
theorem xML_p2_22 : xm_mq (10, 208, 1, 32, 2, 5) := ⟨_, _, xc_32, rfl, rfl, by decide, xh3 (i := 45) rfl rfl, xh3 (i := 46) rfl rfl, xh3 (i := 47) rfl rfl⟩
set_option maxRecDepth 100000 in
theorem xML_p2_23 : xm_mq (10, 214, 1, 61, 2, 8) := ⟨_, _, xc_61, rfl, rfl, by decide, xh5 (i := 134) rfl rfl, xh5 (i := 135) rfl rfl, xh5 (i := 136) rfl rfl⟩
set_option maxRecDepth 100000 in
theorem xML_p2_24 : xm_mq (10, 217, 1, 33, 3, 5) := ⟨_, _, xc_33, rfl, rfl, by decide, xh5 (i := 138) rfl rfl, xh5 (i := 139) rfl rfl, xh5 (i := 140) rfl rfl⟩
set_option maxRecDepth 100000 in
theorem xML_p2_25 : xm_mq (10, 220, 1, 19, 3, 3) := ⟨_, _, xc_19, rfl, rfl, by decide, xh5 (i := 102) rfl rfl, xh5 (i := 103) rfl rfl, xh5 (i := 104) rfl rfl⟩
set_option maxRecDepth 100000 in
theorem xML_p2_26 : xm_mq (10, 223, 1, 11, 0, 3) := ⟨_, _, xc_11, rfl, rfl, by decide, xh5 (i := 110) rfl rfl, xh5 (i := 111) rfl rfl, xh5 (i := 112) rfl rfl⟩
set_option maxRecDepth 100000 in
theorem xML_p2_27 : xm_mq (10, 231, 1, 27, 1, 4) := ⟨_, _, xc_27, rfl, rfl, by decide, xh5 (i := 166) rfl rfl, xh5 (i := 167) rfl rfl, xh5 (i := 168) rfl rfl⟩
set_option maxRecDepth 100000 in
theorem xML_p2_28 : xm_mq (10, 241, 1, 2, 2, 2) := ⟨_, _, xc_2, rfl, rfl, by decide, xh5 (i := 187) rfl rfl, xh5 (i := 188) rfl rfl, xh5 (i := 189) rfl rfl⟩
set_option maxRecDepth 100000 in
theorem xML_p2_29 : xm_mq (10, 244, 1, 102, 2, 0) := ⟨_, _, xc_102, rfl, rfl, by decide, xh5 (i := 191) rfl rfl, xh5 (i := 193) rfl rfl, xg_sel (i := 33) rfl⟩
set_option maxRecDepth 100000 in
theorem xML_p2_30 : xm_mq (10, 262, 1, 3, 2, 2) := ⟨_, _, xc_3, rfl, rfl, by decide, xh5 (i := 195) rfl rfl, xh5 (i := 196) rfl rfl, xh5 (i := 197) rfl rfl⟩
set_option maxRecDepth 100000 in
theorem xML_p2_31 : xm_mq (10, 271, 1, 10, 1, 3) := ⟨_, _, xc_10, rfl, rfl, by decide, xh5 (i := 207) rfl rfl, xh4 (i := 238) rfl rfl, xh4 (i := 239) rfl rfl⟩
set_option maxRecDepth 100000 in
theorem xML_p2_32 : xm_mq (10, 281, 1, 28, 1, 4) := ⟨_, _, xc_28, rfl, rfl, by decide, xh3 (i := 26) rfl rfl, xh3 (i := 27) rfl rfl, xh3 (i := 28) rfl rfl⟩
set_option maxRecDepth 100000 in
theorem xML_p2_33 : xm_mq (10, 289, 1, 31, 2, 5) := ⟨_, _, xc_31, rfl, rfl, by decide, xh6 (i := 13) rfl rfl, xh6 (i := 14) rfl rfl, xh6 (i := 15) rfl rfl⟩
set_option maxRecDepth 100000 in
theorem xML_p2_34 : xm_mq (10, 292, 1, 35, 2, 5) := ⟨_, _, xc_35, rfl, rfl, by decide, xh6 (i := 24) rfl rfl, xh6 (i := 25) rfl rfl, xh6 (i := 26) rfl rfl⟩
set_option maxRecDepth 100000 in
theorem xML_p2_35 : xm_mq (10, 295, 0, 124, 2, 0) := ⟨_, xc_124, rfl, xh6 (i := 41) rfl rfl, xh6 (i := 42) rfl rfl⟩
set_option maxRecDepth 100000 in
theorem xML_p2_36 : xm_mq (10, 302, 1, 34, 2, 5) := ⟨_, _, xc_34, rfl, rfl, by decide, xh3 (i := 53) rfl rfl, xh3 (i := 54) rfl rfl, xh3 (i := 55) rfl rfl⟩
set_option maxRecDepth 100000 in
theorem xML_p2_37 : xm_mq (10, 309, 1, 4, 3, 2) := ⟨_, _, xc_4, rfl, rfl, by decide, xh6 (i := 65) rfl rfl, xh6 (i := 66) rfl rfl, xh6 (i := 67) rfl rfl⟩
set_option maxRecDepth 100000 in
theorem xML_p2_38 : xm_mq (10, 319, 1, 288, 1, 13) := ⟨_, _, xc_288, rfl, rfl, by decide, xh6 (i := 77) rfl rfl, xh6 (i := 78) rfl rfl, xh6 (i := 79) rfl rfl⟩
set_option maxRecDepth 100000 in
theorem xML_p2_39 : xm_mq (10, 331, 1, 283, 1, 13) := ⟨_, _, xc_283, rfl, rfl, by decide, xh7 (i := 53) rfl rfl, xh6 (i := 93) rfl rfl, xh6 (i := 94) rfl rfl⟩
def xML_2 : List (Nat × Nat × Nat × Nat × Nat × Nat) := [(10, 39, 2, 26, 0, 4), (10, 46, 2, 282, 0, 13), (10, 61, 1, 65, 1, 10), (10, 65, 0, 130, 3, 0), (10, 69, 1, 37, 1, 6), (10, 77, 1, 6, 1, 3), (10, 81, 1, 29, 0, 4), (10, 104, 1, 126, 1, 0), (10, 114, 1, 125, 1, 0), (10, 120, 1, 7, 1, 3), (10, 133, 1, 9, 1, 3), (10, 142, 0, 129, 1, 0), (10, 145, 1, 13, 1, 3), (10, 148, 1, 14, 4, 3), (10, 159, 1, 15, 3, 3), (10, 168, 1, 127, 1, 0), (10, 171, 1, 17, 2, 3), (10, 184, 1, 128, 1, 0), (10, 187, 1, 21, 4, 3), (10, 190, 1, 23, 3, 3), (10, 194, 1, 62, 1, 8), (10, 198, 1, 98, 3, 0), (10, 208, 1, 32, 2, 5), (10, 214, 1, 61, 2, 8), (10, 217, 1, 33, 3, 5), (10, 220, 1, 19, 3, 3), (10, 223, 1, 11, 0, 3), (10, 231, 1, 27, 1, 4), (10, 241, 1, 2, 2, 2), (10, 244, 1, 102, 2, 0), (10, 262, 1, 3, 2, 2), (10, 271, 1, 10, 1, 3), (10, 281, 1, 28, 1, 4), (10, 289, 1, 31, 2, 5), (10, 292, 1, 35, 2, 5), (10, 295, 0, 124, 2, 0), (10, 302, 1, 34, 2, 5), (10, 309, 1, 4, 3, 2), (10, 319, 1, 288, 1, 13), (10, 331, 1, 283, 1, 13)]
theorem xML_ok2 : ∀ q ∈ xML_2, xm_mq q := List.forall_mem_cons.mpr ⟨xML_p2_0, List.forall_mem_cons.mpr ⟨xML_p2_1, List.forall_mem_cons.mpr ⟨xML_p2_2, List.forall_mem_cons.mpr ⟨xML_p2_3, List.forall_mem_cons.mpr ⟨xML_p2_4, List.forall_mem_cons.mpr ⟨xML_p2_5, List.forall_mem_cons.mpr ⟨xML_p2_6, List.forall_mem_cons.mpr ⟨xML_p2_7, List.forall_mem_cons.mpr ⟨xML_p2_8, List.forall_mem_cons.mpr ⟨xML_p2_9, List.forall_mem_cons.mpr ⟨xML_p2_10, List.forall_mem_cons.mpr ⟨xML_p2_11, List.forall_mem_cons.mpr ⟨xML_p2_12, List.forall_mem_cons.mpr ⟨xML_p2_13, List.forall_mem_cons.mpr ⟨xML_p2_14, List.forall_mem_cons.mpr ⟨xML_p2_15, List.forall_mem_cons.mpr ⟨xML_p2_16, List.forall_mem_cons.mpr ⟨xML_p2_17, List.forall_mem_cons.mpr ⟨xML_p2_18, List.forall_mem_cons.mpr ⟨xML_p2_19, List.forall_mem_cons.mpr ⟨xML_p2_20, List.forall_mem_cons.mpr ⟨xML_p2_21, List.forall_mem_cons.mpr ⟨xML_p2_22, List.forall_mem_cons.mpr ⟨xML_p2_23, List.forall_mem_cons.mpr ⟨xML_p2_24, List.forall_mem_cons.mpr ⟨xML_p2_25, List.forall_mem_cons.mpr ⟨xML_p2_26, List.forall_mem_cons.mpr ⟨xML_p2_27, List.forall_mem_cons.mpr ⟨xML_p2_28, List.forall_mem_cons.mpr ⟨xML_p2_29, List.forall_mem_cons.mpr ⟨xML_p2_30, List.forall_mem_cons.mpr ⟨xML_p2_31, List.forall_mem_cons.mpr ⟨xML_p2_32, List.forall_mem_cons.mpr ⟨xML_p2_33, List.forall_mem_cons.mpr ⟨xML_p2_34, List.forall_mem_cons.mpr ⟨xML_p2_35, List.forall_mem_cons.mpr ⟨xML_p2_36, List.forall_mem_cons.mpr ⟨xML_p2_37, List.forall_mem_cons.mpr ⟨xML_p2_38, List.forall_mem_cons.mpr ⟨xML_p2_39, fun _ h => absurd h List.not_mem_nil⟩⟩⟩⟩⟩⟩⟩⟩⟩⟩⟩⟩⟩⟩⟩⟩⟩⟩⟩⟩⟩⟩⟩⟩⟩⟩⟩⟩⟩⟩⟩⟩⟩⟩⟩⟩⟩⟩⟩⟩
set_option maxRecDepth 100000 in
theorem xML_p3_0 : xm_mq (10, 334, 1, 284, 1, 13) := ⟨_, _, xc_284, rfl, rfl, by decide, xh7 (i := 54) rfl rfl, xh7 (i := 55) rfl rfl, xh7 (i := 56) rfl rfl⟩
set_option maxRecDepth 100000 in
theorem xML_p3_1 : xm_mq (10, 337, 0, 123, 1, 0) := ⟨_, xc_123, rfl, xh7 (i := 67) rfl rfl, xh7 (i := 68) rfl rfl⟩
set_option maxRecDepth 100000 in
theorem xML_p3_2 : xm_mq (10, 343, 1, 285, 1, 13) := ⟨_, _, xc_285, rfl, rfl, by decide, xh7 (i := 74) rfl rfl, xh6 (i := 176) rfl rfl, xh6 (i := 177) rfl rfl⟩
set_option maxRecDepth 100000 in
theorem xML_p3_3 : xm_mq (10, 352, 1, 289, 0, 13) := ⟨_, _, xc_289, rfl, rfl, by decide, xh7 (i := 78) rfl rfl, xh6 (i := 220) rfl rfl, xh9 (i := 229) rfl rfl⟩
set_option maxRecDepth 100000 in
theorem xML_p3_4 : xm_mq (10, 358, 1, 287, 1, 13) := ⟨_, _, xc_287, rfl, rfl, by decide, xh7 (i := 87) rfl rfl, xh7 (i := 88) rfl rfl, xh7 (i := 89) rfl rfl⟩
set_option maxRecDepth 100000 in
theorem xML_p3_5 : xm_mq (11, 1, 8, 0, 0, 0) := ⟨xh7 (i := 102) rfl rfl, xh1 (i := 38) rfl rfl, xh1 (i := 39) rfl rfl⟩
set_option maxRecDepth 100000 in
theorem xML_p3_6 : xm_mq (11, 54, 1, 151, 0, 11) := ⟨_, _, xc_151, rfl, rfl, by decide, xh7 (i := 103) rfl rfl, xh7 (i := 105) rfl rfl, xg_sel (i := 34) rfl⟩
set_option maxRecDepth 100000 in
theorem xML_p3_7 : xm_mq (11, 57, 1, 152, 0, 11) := ⟨_, _, xc_152, rfl, rfl, by decide, xh7 (i := 107) rfl rfl, xh7 (i := 109) rfl rfl, xg_sel (i := 35) rfl⟩
set_option maxRecDepth 100000 in
theorem xML_p3_8 : xm_mq (11, 69, 1, 140, 1, 11) := ⟨_, _, xc_140, rfl, rfl, by decide, xh7 (i := 222) rfl rfl, xh7 (i := 224) rfl rfl, xg_sel (i := 37) rfl⟩
set_option maxRecDepth 100000 in
theorem xML_p3_9 : xm_mq (11, 79, 1, 142, 1, 11) := ⟨_, _, xc_142, rfl, rfl, by decide, xh7 (i := 237) rfl rfl, xh7 (i := 239) rfl rfl, xg_sel (i := 39) rfl⟩
set_option maxRecDepth 100000 in
theorem xML_p3_10 : xm_mq (11, 93, 0, 143, 1, 0) := ⟨_, xc_143, rfl, xh8 (i := 1) rfl rfl, xh8 (i := 2) rfl rfl⟩
set_option maxRecDepth 100000 in
theorem xML_p3_11 : xm_mq (11, 101, 0, 144, 1, 0) := ⟨_, xc_144, rfl, xh8 (i := 6) rfl rfl, xh8 (i := 7) rfl rfl⟩
set_option maxRecDepth 100000 in
theorem xML_p3_12 : xm_mq (11, 107, 1, 272, 0, 12) := ⟨_, _, xc_272, rfl, rfl, by decide, xh8 (i := 18) rfl rfl, xh3 (i := 179) rfl rfl, xh3 (i := 180) rfl rfl⟩
set_option maxRecDepth 100000 in
theorem xML_p3_13 : xm_mq (11, 112, 1, 273, 1, 12) := ⟨_, _, xc_273, rfl, rfl, by decide, xh8 (i := 19) rfl rfl, xh3 (i := 188) rfl rfl, xh3 (i := 189) rfl rfl⟩
set_option maxRecDepth 100000 in
theorem xML_p3_14 : xm_mq (11, 122, 1, 147, 1, 11) := ⟨_, _, xc_147, rfl, rfl, by decide, xh8 (i := 32) rfl rfl, xh8 (i := 34) rfl rfl, xg_sel (i := 45) rfl⟩
set_option maxRecDepth 100000 in
theorem xML_p3_15 : xm_mq (11, 125, 0, 133, 3, 0) := ⟨_, xc_133, rfl, xh7 (i := 230) rfl rfl, xh7 (i := 231) rfl rfl⟩
set_option maxRecDepth 100000 in
theorem xML_p3_16 : xm_mq (11, 132, 1, 145, 0, 11) := ⟨_, _, xc_145, rfl, rfl, by decide, xh7 (i := 233) rfl rfl, xh7 (i := 235) rfl rfl, xg_sel (i := 38) rfl⟩
set_option maxRecDepth 100000 in
theorem xML_p3_17 : xm_mq (11, 136, 1, 148, 2, 11) := ⟨_, _, xc_148, rfl, rfl, by decide, xh8 (i := 28) rfl rfl, xh8 (i := 30) rfl rfl, xg_sel (i := 44) rfl⟩
set_option maxRecDepth 100000 in
theorem xML_p3_18 : xm_mq (11, 140, 1, 172, 3, 11) := ⟨_, _, xc_172, rfl, rfl, by decide, xh7 (i := 111) rfl rfl, xh7 (i := 113) rfl rfl, xg_sel (i := 36) rfl⟩
set_option maxRecDepth 100000 in
theorem xML_p3_19 : xm_mq (11, 144, 1, 149, 3, 11) := ⟨_, _, xc_149, rfl, rfl, by decide, xh8 (i := 24) rfl rfl, xh8 (i := 26) rfl rfl, xg_sel (i := 43) rfl⟩
set_option maxRecDepth 100000 in
theorem xML_p3_20 : xm_mq (11, 150, 1, 146, 1, 11) := ⟨_, _, xc_146, rfl, rfl, by decide, xh8 (i := 14) rfl rfl, xh8 (i := 16) rfl rfl, xg_sel (i := 41) rfl⟩
set_option maxRecDepth 100000 in
theorem xML_p3_21 : xm_mq (11, 154, 0, 153, 3, 0) := ⟨_, xc_153, rfl, xh8 (i := 52) rfl rfl, xh8 (i := 53) rfl rfl⟩
set_option maxRecDepth 100000 in
theorem xML_p3_22 : xm_mq (11, 158, 1, 156, 2, 11) := ⟨_, _, xc_156, rfl, rfl, by decide, xh8 (i := 47) rfl rfl, xh8 (i := 49) rfl rfl, xg_sel (i := 48) rfl⟩
set_option maxRecDepth 100000 in
theorem xML_p3_23 : xm_mq (11, 162, 1, 158, 1, 11) := ⟨_, _, xc_158, rfl, rfl, by decide, xh8 (i := 60) rfl rfl, xh8 (i := 62) rfl rfl, xg_sel (i := 50) rfl⟩
set_option maxRecDepth 100000 in
theorem xML_p3_24 : xm_mq (11, 168, 1, 160, 0, 11) := ⟨_, _, xc_160, rfl, rfl, by decide, xh8 (i := 69) rfl rfl, xh8 (i := 71) rfl rfl, xg_sel (i := 52) rfl⟩
set_option maxRecDepth 100000 in
theorem xML_p3_25 : xm_mq (11, 179, 1, 154, 1, 11) := ⟨_, _, xc_154, rfl, rfl, by decide, xh8 (i := 20) rfl rfl, xh8 (i := 22) rfl rfl, xg_sel (i := 42) rfl⟩
set_option maxRecDepth 100000 in
theorem xML_p3_26 : xm_mq (11, 186, 1, 155, 0, 11) := ⟨_, _, xc_155, rfl, rfl, by decide, xh8 (i := 38) rfl rfl, xh8 (i := 40) rfl rfl, xg_sel (i := 46) rfl⟩
set_option maxRecDepth 100000 in
theorem xML_p3_27 : xm_mq (11, 191, 1, 157, 0, 11) := ⟨_, _, xc_157, rfl, rfl, by decide, xh8 (i := 43) rfl rfl, xh8 (i := 45) rfl rfl, xg_sel (i := 47) rfl⟩
set_option maxRecDepth 100000 in
theorem xML_p3_28 : xm_mq (11, 196, 1, 159, 0, 11) := ⟨_, _, xc_159, rfl, rfl, by decide, xh8 (i := 56) rfl rfl, xh8 (i := 58) rfl rfl, xg_sel (i := 49) rfl⟩
set_option maxRecDepth 100000 in
theorem xML_p3_29 : xm_mq (11, 201, 1, 161, 0, 11) := ⟨_, _, xc_161, rfl, rfl, by decide, xh8 (i := 65) rfl rfl, xh8 (i := 67) rfl rfl, xg_sel (i := 51) rfl⟩
set_option maxRecDepth 100000 in
theorem xML_p3_30 : xm_mq (11, 206, 1, 162, 0, 11) := ⟨_, _, xc_162, rfl, rfl, by decide, xh8 (i := 77) rfl rfl, xh8 (i := 79) rfl rfl, xg_sel (i := 53) rfl⟩
set_option maxRecDepth 100000 in
theorem xML_p3_31 : xm_mq (11, 209, 1, 163, 0, 11) := ⟨_, _, xc_163, rfl, rfl, by decide, xh8 (i := 9) rfl rfl, xh8 (i := 11) rfl rfl, xg_sel (i := 40) rfl⟩
set_option maxRecDepth 100000 in
theorem xML_p3_32 : xm_mq (11, 212, 1, 150, 0, 11) := ⟨_, _, xc_150, rfl, rfl, by decide, xh8 (i := 81) rfl rfl, xh8 (i := 83) rfl rfl, xg_sel (i := 54) rfl⟩
set_option maxRecDepth 100000 in
theorem xML_p3_33 : xm_mq (11, 220, 1, 171, 2, 11) := ⟨_, _, xc_171, rfl, rfl, by decide, xh8 (i := 129) rfl rfl, xh8 (i := 131) rfl rfl, xg_sel (i := 59) rfl⟩
set_option maxRecDepth 100000 in
theorem xML_p3_34 : xm_mq (11, 224, 1, 168, 1, 11) := ⟨_, _, xc_168, rfl, rfl, by decide, xh8 (i := 109) rfl rfl, xh8 (i := 111) rfl rfl, xg_sel (i := 55) rfl⟩
set_option maxRecDepth 100000 in
theorem xML_p3_35 : xm_mq (11, 227, 1, 134, 1, 11) := ⟨_, _, xc_134, rfl, rfl, by decide, xh8 (i := 113) rfl rfl, xh8 (i := 115) rfl rfl, xg_sel (i := 56) rfl⟩
set_option maxRecDepth 100000 in
theorem xML_p3_36 : xm_mq (11, 231, 1, 167, 1, 11) := ⟨_, _, xc_167, rfl, rfl, by decide, xh8 (i := 125) rfl rfl, xh8 (i := 127) rfl rfl, xg_sel (i := 58) rfl⟩
set_option maxRecDepth 100000 in
theorem xML_p3_37 : xm_mq (11, 234, 1, 180, 2, 11) := ⟨_, _, xc_180, rfl, rfl, by decide, xh8 (i := 121) rfl rfl, xh8 (i := 123) rfl rfl, xg_sel (i := 57) rfl⟩
set_option maxRecDepth 100000 in
theorem xML_p3_38 : xm_mq (11, 237, 1, 173, 1, 11) := ⟨_, _, xc_173, rfl, rfl, by decide, xh8 (i := 137) rfl rfl, xh8 (i := 139) rfl rfl, xg_sel (i := 60) rfl⟩
set_option maxRecDepth 100000 in
theorem xML_p3_39 : xm_mq (11, 240, 1, 174, 1, 11) := ⟨_, _, xc_174, rfl, rfl, by decide, xh8 (i := 157) rfl rfl, xh8 (i := 159) rfl rfl, xg_sel (i := 61) rfl⟩
def xML_3 : List (Nat × Nat × Nat × Nat × Nat × Nat) := [(10, 334, 1, 284, 1, 13), (10, 337, 0, 123, 1, 0), (10, 343, 1, 285, 1, 13), (10, 352, 1, 289, 0, 13), (10, 358, 1, 287, 1, 13), (11, 1, 8, 0, 0, 0), (11, 54, 1, 151, 0, 11), (11, 57, 1, 152, 0, 11), (11, 69, 1, 140, 1, 11), (11, 79, 1, 142, 1, 11), (11, 93, 0, 143, 1, 0), (11, 101, 0, 144, 1, 0), (11, 107, 1, 272, 0, 12), (11, 112, 1, 273, 1, 12), (11, 122, 1, 147, 1, 11), (11, 125, 0, 133, 3, 0), (11, 132, 1, 145, 0, 11), (11, 136, 1, 148, 2, 11), (11, 140, 1, 172, 3, 11), (11, 144, 1, 149, 3, 11), (11, 150, 1, 146, 1, 11), (11, 154, 0, 153, 3, 0), (11, 158, 1, 156, 2, 11), (11, 162, 1, 158, 1, 11), (11, 168, 1, 160, 0, 11), (11, 179, 1, 154, 1, 11), (11, 186, 1, 155, 0, 11), (11, 191, 1, 157, 0, 11), (11, 196, 1, 159, 0, 11), (11, 201, 1, 161, 0, 11), (11, 206, 1, 162, 0, 11), (11, 209, 1, 163, 0, 11), (11, 212, 1, 150, 0, 11), (11, 220, 1, 171, 2, 11), (11, 224, 1, 168, 1, 11), (11, 227, 1, 134, 1, 11), (11, 231, 1, 167, 1, 11), (11, 234, 1, 180, 2, 11), (11, 237, 1, 173, 1, 11), (11, 240, 1, 174, 1, 11)]
theorem xML_ok3 : ∀ q ∈ xML_3, xm_mq q := List.forall_mem_cons.mpr ⟨xML_p3_0, List.forall_mem_cons.mpr ⟨xML_p3_1, List.forall_mem_cons.mpr ⟨xML_p3_2, List.forall_mem_cons.mpr ⟨xML_p3_3, List.forall_mem_cons.mpr ⟨xML_p3_4, List.forall_mem_cons.mpr ⟨xML_p3_5, List.forall_mem_cons.mpr ⟨xML_p3_6, List.forall_mem_cons.mpr ⟨xML_p3_7, List.forall_mem_cons.mpr ⟨xML_p3_8, List.forall_mem_cons.mpr ⟨xML_p3_9, List.forall_mem_cons.mpr ⟨xML_p3_10, List.forall_mem_cons.mpr ⟨xML_p3_11, List.forall_mem_cons.mpr ⟨xML_p3_12, List.forall_mem_cons.mpr ⟨xML_p3_13, List.forall_mem_cons.mpr ⟨xML_p3_14, List.forall_mem_cons.mpr ⟨xML_p3_15, List.forall_mem_cons.mpr ⟨xML_p3_16, List.forall_mem_cons.mpr ⟨xML_p3_17, List.forall_mem_cons.mpr ⟨xML_p3_18, List.forall_mem_cons.mpr ⟨xML_p3_19, List.forall_mem_cons.mpr ⟨xML_p3_20, List.forall_mem_cons.mpr ⟨xML_p3_21, List.forall_mem_cons.mpr ⟨xML_p3_22, List.forall_mem_cons.mpr ⟨xML_p3_23, List.forall_mem_cons.mpr ⟨xML_p3_24, List.forall_mem_cons.mpr ⟨xML_p3_25, List.forall_mem_cons.mpr ⟨xML_p3_26, List.forall_mem_cons.mpr ⟨xML_p3_27, List.forall_mem_cons.mpr ⟨xML_p3_28, List.forall_mem_cons.mpr ⟨xML_p3_29, List.forall_mem_cons.mpr ⟨xML_p3_30, List.forall_mem_cons.mpr ⟨xML_p3_31, List.forall_mem_cons.mpr ⟨xML_p3_32, List.forall_mem_cons.mpr ⟨xML_p3_33, List.forall_mem_cons.mpr ⟨xML_p3_34, List.forall_mem_cons.mpr ⟨xML_p3_35, List.forall_mem_cons.mpr ⟨xML_p3_36, List.forall_mem_cons.mpr ⟨xML_p3_37, List.forall_mem_cons.mpr ⟨xML_p3_38, List.forall_mem_cons.mpr ⟨xML_p3_39, fun _ h => absurd h List.not_mem_nil⟩⟩⟩⟩⟩⟩⟩⟩⟩⟩⟩⟩⟩⟩⟩⟩⟩⟩⟩⟩⟩⟩⟩⟩⟩⟩⟩⟩⟩⟩⟩⟩⟩⟩⟩⟩⟩⟩⟩⟩
set_option maxRecDepth 100000 in
theorem xML_p4_0 : xm_mq (11, 243, 1, 189, 2, 11) := ⟨_, _, xc_189, rfl, rfl, by decide, xh8 (i := 193) rfl rfl, xh8 (i := 195) rfl rfl, xg_sel (i := 66) rfl⟩
set_option maxRecDepth 100000 in
theorem xML_p4_1 : xm_mq (11, 246, 1, 175, 1, 11) := ⟨_, _, xc_175, rfl, rfl, by decide, xh8 (i := 185) rfl rfl, xh8 (i := 187) rfl rfl, xg_sel (i := 64) rfl⟩
set_option maxRecDepth 100000 in
theorem xML_p4_2 : xm_mq (11, 249, 1, 190, 2, 11) := ⟨_, _, xc_190, rfl, rfl, by decide, xh8 (i := 189) rfl rfl, xh8 (i := 191) rfl rfl, xg_sel (i := 65) rfl⟩
set_option maxRecDepth 100000 in
theorem xML_p4_3 : xm_mq (11, 258, 11, 0, 0, 0) := ⟨xh8 (i := 217) rfl rfl, xh5 (i := 41) rfl rfl, xh1 (i := 21) rfl rfl, xh5 (i := 42) rfl rfl⟩
set_option maxRecDepth 100000 in
theorem xML_p4_4 : xm_mq (11, 263, 1, 191, 3, 11) := ⟨_, _, xc_191, rfl, rfl, by decide, xh8 (i := 181) rfl rfl, xh8 (i := 183) rfl rfl, xg_sel (i := 63) rfl⟩
set_option maxRecDepth 100000 in
theorem xML_p4_5 : xm_mq (11, 267, 1, 192, 1, 11) := ⟨_, _, xc_192, rfl, rfl, by decide, xh8 (i := 205) rfl rfl, xh8 (i := 207) rfl rfl, xg_sel (i := 68) rfl⟩
set_option maxRecDepth 100000 in
theorem xML_p4_6 : xm_mq (11, 270, 1, 193, 1, 11) := ⟨_, _, xc_193, rfl, rfl, by decide, xh8 (i := 209) rfl rfl, xh8 (i := 211) rfl rfl, xg_sel (i := 69) rfl⟩
set_option maxRecDepth 100000 in
theorem xML_p4_7 : xm_mq (11, 273, 1, 194, 3, 11) := ⟨_, _, xc_194, rfl, rfl, by decide, xh8 (i := 213) rfl rfl, xh8 (i := 215) rfl rfl, xg_sel (i := 70) rfl⟩
set_option maxRecDepth 100000 in
theorem xML_p4_8 : xm_mq (11, 276, 12, 0, 0, 0) := ⟨xh9 (i := 38) rfl rfl, xh3 (i := 155) rfl rfl, xh1 (i := 21) rfl rfl, xh3 (i := 156) rfl rfl⟩
set_option maxRecDepth 100000 in
theorem xML_p4_9 : xm_mq (11, 279, 1, 197, 1, 11) := ⟨_, _, xc_197, rfl, rfl, by decide, xh9 (i := 34) rfl rfl, xh9 (i := 36) rfl rfl, xg_sel (i := 79) rfl⟩
set_option maxRecDepth 100000 in
theorem xML_p4_10 : xm_mq (11, 282, 0, 169, 1, 0) := ⟨_, xc_169, rfl, xh8 (i := 173) rfl rfl, xh8 (i := 174) rfl rfl⟩
set_option maxRecDepth 100000 in
theorem xML_p4_11 : xm_mq (11, 285, 1, 170, 1, 11) := ⟨_, _, xc_170, rfl, rfl, by decide, xh8 (i := 234) rfl rfl, xh8 (i := 236) rfl rfl, xg_sel (i := 72) rfl⟩
set_option maxRecDepth 100000 in
theorem xML_p4_12 : xm_mq (11, 288, 1, 135, 2, 11) := ⟨_, _, xc_135, rfl, rfl, by decide, xh8 (i := 177) rfl rfl, xh8 (i := 179) rfl rfl, xg_sel (i := 62) rfl⟩
set_option maxRecDepth 100000 in
theorem xML_p4_13 : xm_mq (11, 291, 1, 195, 3, 11) := ⟨_, _, xc_195, rfl, rfl, by decide, xh8 (i := 201) rfl rfl, xh8 (i := 203) rfl rfl, xg_sel (i := 67) rfl⟩
set_option maxRecDepth 100000 in
theorem xML_p4_14 : xm_mq (11, 294, 1, 199, 2, 11) := ⟨_, _, xc_199, rfl, rfl, by decide, xh8 (i := 230) rfl rfl, xh8 (i := 232) rfl rfl, xg_sel (i := 71) rfl⟩
set_option maxRecDepth 100000 in
theorem xML_p4_15 : xm_mq (11, 297, 1, 204, 1, 11) := ⟨_, _, xc_204, rfl, rfl, by decide, xh8 (i := 238) rfl rfl, xh9 (i := 0) rfl rfl, xg_sel (i := 73) rfl⟩
set_option maxRecDepth 100000 in
theorem xML_p4_16 : xm_mq (11, 300, 1, 206, 0, 11) := ⟨_, _, xc_206, rfl, rfl, by decide, xh9 (i := 6) rfl rfl, xh9 (i := 8) rfl rfl, xg_sel (i := 74) rfl⟩
set_option maxRecDepth 100000 in
theorem xML_p4_17 : xm_mq (11, 303, 1, 196, 1, 11) := ⟨_, _, xc_196, rfl, rfl, by decide, xh9 (i := 26) rfl rfl, xh9 (i := 28) rfl rfl, xg_sel (i := 77) rfl⟩
set_option maxRecDepth 100000 in
theorem xML_p4_18 : xm_mq (11, 306, 1, 198, 0, 11) := ⟨_, _, xc_198, rfl, rfl, by decide, xh9 (i := 30) rfl rfl, xh9 (i := 32) rfl rfl, xg_sel (i := 78) rfl⟩
set_option maxRecDepth 100000 in
theorem xML_p4_19 : xm_mq (11, 311, 1, 209, 2, 11) := ⟨_, _, xc_209, rfl, rfl, by decide, xh9 (i := 14) rfl rfl, xh9 (i := 16) rfl rfl, xg_sel (i := 75) rfl⟩
set_option maxRecDepth 100000 in
theorem xML_p4_20 : xm_mq (11, 314, 0, 137, 2, 0) := ⟨_, xc_137, rfl, xh9 (i := 19) rfl rfl, xh9 (i := 20) rfl rfl⟩
set_option maxRecDepth 100000 in
theorem xML_p4_21 : xm_mq (11, 318, 1, 208, 3, 11) := ⟨_, _, xc_208, rfl, rfl, by decide, xh9 (i := 22) rfl rfl, xh9 (i := 24) rfl rfl, xg_sel (i := 76) rfl⟩
set_option maxRecDepth 100000 in
theorem xML_p4_22 : xm_mq (11, 321, 1, 212, 1, 11) := ⟨_, _, xc_212, rfl, rfl, by decide, xh9 (i := 47) rfl rfl, xh9 (i := 49) rfl rfl, xg_sel (i := 80) rfl⟩
set_option maxRecDepth 100000 in
theorem xML_p4_23 : xm_mq (11, 326, 1, 136, 3, 11) := ⟨_, _, xc_136, rfl, rfl, by decide, xh9 (i := 56) rfl rfl, xh9 (i := 58) rfl rfl, xg_sel (i := 81) rfl⟩
set_option maxRecDepth 100000 in
theorem xML_p4_24 : xm_mq (11, 329, 1, 138, 0, 11) := ⟨_, _, xc_138, rfl, rfl, by decide, xh9 (i := 60) rfl rfl, xh9 (i := 62) rfl rfl, xg_sel (i := 82) rfl⟩
set_option maxRecDepth 100000 in
theorem xML_p4_25 : xm_mq (11, 336, 1, 216, 2, 11) := ⟨_, _, xc_216, rfl, rfl, by decide, xh9 (i := 82) rfl rfl, xh9 (i := 84) rfl rfl, xg_sel (i := 85) rfl⟩
set_option maxRecDepth 100000 in
theorem xML_p4_26 : xm_mq (11, 339, 1, 217, 2, 11) := ⟨_, _, xc_217, rfl, rfl, by decide, xh9 (i := 78) rfl rfl, xh9 (i := 80) rfl rfl, xg_sel (i := 84) rfl⟩
set_option maxRecDepth 100000 in
theorem xML_p4_27 : xm_mq (11, 342, 1, 218, 1, 11) := ⟨_, _, xc_218, rfl, rfl, by decide, xh9 (i := 74) rfl rfl, xh9 (i := 76) rfl rfl, xg_sel (i := 83) rfl⟩
set_option maxRecDepth 100000 in
theorem xML_p4_28 : xm_mq (11, 345, 1, 220, 1, 11) := ⟨_, _, xc_220, rfl, rfl, by decide, xh9 (i := 86) rfl rfl, xh9 (i := 88) rfl rfl, xg_sel (i := 86) rfl⟩
set_option maxRecDepth 100000 in
theorem xML_p4_29 : xm_mq (11, 348, 1, 222, 2, 11) := ⟨_, _, xc_222, rfl, rfl, by decide, xh9 (i := 94) rfl rfl, xh9 (i := 96) rfl rfl, xg_sel (i := 87) rfl⟩
set_option maxRecDepth 100000 in
theorem xML_p4_30 : xm_mq (11, 357, 1, 232, 1, 11) := ⟨_, _, xc_232, rfl, rfl, by decide, xh9 (i := 137) rfl rfl, xh9 (i := 139) rfl rfl, xg_sel (i := 88) rfl⟩
set_option maxRecDepth 100000 in
theorem xML_p4_31 : xm_mq (11, 360, 1, 236, 1, 11) := ⟨_, _, xc_236, rfl, rfl, by decide, xh9 (i := 153) rfl rfl, xh9 (i := 155) rfl rfl, xg_sel (i := 89) rfl⟩
set_option maxRecDepth 100000 in
theorem xML_p4_32 : xm_mq (11, 363, 1, 240, 2, 11) := ⟨_, _, xc_240, rfl, rfl, by decide, xh9 (i := 173) rfl rfl, xh9 (i := 175) rfl rfl, xg_sel (i := 91) rfl⟩
set_option maxRecDepth 100000 in
theorem xML_p4_33 : xm_mq (11, 367, 1, 219, 1, 11) := ⟨_, _, xc_219, rfl, rfl, by decide, xh9 (i := 177) rfl rfl, xh9 (i := 179) rfl rfl, xg_sel (i := 92) rfl⟩
set_option maxRecDepth 100000 in
theorem xML_p4_34 : xm_mq (11, 370, 1, 241, 3, 11) := ⟨_, _, xc_241, rfl, rfl, by decide, xh9 (i := 169) rfl rfl, xh9 (i := 171) rfl rfl, xg_sel (i := 90) rfl⟩
set_option maxRecDepth 100000 in
theorem xML_p4_35 : xm_mq (11, 377, 1, 244, 1, 11) := ⟨_, _, xc_244, rfl, rfl, by decide, xh9 (i := 194) rfl rfl, xh9 (i := 196) rfl rfl, xg_sel (i := 94) rfl⟩
set_option maxRecDepth 100000 in
theorem xML_p4_36 : xm_mq (11, 382, 1, 247, 1, 11) := ⟨_, _, xc_247, rfl, rfl, by decide, xh9 (i := 189) rfl rfl, xh9 (i := 191) rfl rfl, xg_sel (i := 93) rfl⟩
set_option maxRecDepth 100000 in
theorem xML_p4_37 : xm_mq (11, 386, 0, 248, 1, 0) := ⟨_, xc_248, rfl, xh9 (i := 198) rfl rfl, xh9 (i := 199) rfl rfl⟩
set_option maxRecDepth 100000 in
theorem xML_p4_38 : xm_mq (11, 390, 1, 245, 1, 11) := ⟨_, _, xc_245, rfl, rfl, by decide, xh9 (i := 201) rfl rfl, xh9 (i := 203) rfl rfl, xg_sel (i := 95) rfl⟩
set_option maxRecDepth 100000 in
theorem xML_p4_39 : xm_mq (11, 396, 1, 246, 1, 11) := ⟨_, _, xc_246, rfl, rfl, by decide, xh9 (i := 206) rfl rfl, xh9 (i := 208) rfl rfl, xg_sel (i := 96) rfl⟩
def xML_4 : List (Nat × Nat × Nat × Nat × Nat × Nat) := [(11, 243, 1, 189, 2, 11), (11, 246, 1, 175, 1, 11), (11, 249, 1, 190, 2, 11), (11, 258, 11, 0, 0, 0), (11, 263, 1, 191, 3, 11), (11, 267, 1, 192, 1, 11), (11, 270, 1, 193, 1, 11), (11, 273, 1, 194, 3, 11), (11, 276, 12, 0, 0, 0), (11, 279, 1, 197, 1, 11), (11, 282, 0, 169, 1, 0), (11, 285, 1, 170, 1, 11), (11, 288, 1, 135, 2, 11), (11, 291, 1, 195, 3, 11), (11, 294, 1, 199, 2, 11), (11, 297, 1, 204, 1, 11), (11, 300, 1, 206, 0, 11), (11, 303, 1, 196, 1, 11), (11, 306, 1, 198, 0, 11), (11, 311, 1, 209, 2, 11), (11, 314, 0, 137, 2, 0), (11, 318, 1, 208, 3, 11), (11, 321, 1, 212, 1, 11), (11, 326, 1, 136, 3, 11), (11, 329, 1, 138, 0, 11), (11, 336, 1, 216, 2, 11), (11, 339, 1, 217, 2, 11), (11, 342, 1, 218, 1, 11), (11, 345, 1, 220, 1, 11), (11, 348, 1, 222, 2, 11), (11, 357, 1, 232, 1, 11), (11, 360, 1, 236, 1, 11), (11, 363, 1, 240, 2, 11), (11, 367, 1, 219, 1, 11), (11, 370, 1, 241, 3, 11), (11, 377, 1, 244, 1, 11), (11, 382, 1, 247, 1, 11), (11, 386, 0, 248, 1, 0), (11, 390, 1, 245, 1, 11), (11, 396, 1, 246, 1, 11)]
theorem xML_ok4 : ∀ q ∈ xML_4, xm_mq q := List.forall_mem_cons.mpr ⟨xML_p4_0, List.forall_mem_cons.mpr ⟨xML_p4_1, List.forall_mem_cons.mpr ⟨xML_p4_2, List.forall_mem_cons.mpr ⟨xML_p4_3, List.forall_mem_cons.mpr ⟨xML_p4_4, List.forall_mem_cons.mpr ⟨xML_p4_5, List.forall_mem_cons.mpr ⟨xML_p4_6, List.forall_mem_cons.mpr ⟨xML_p4_7, List.forall_mem_cons.mpr ⟨xML_p4_8, List.forall_mem_cons.mpr ⟨xML_p4_9, List.forall_mem_cons.mpr ⟨xML_p4_10, List.forall_mem_cons.mpr ⟨xML_p4_11, List.forall_mem_cons.mpr ⟨xML_p4_12, List.forall_mem_cons.mpr ⟨xML_p4_13, List.forall_mem_cons.mpr ⟨xML_p4_14, List.forall_mem_cons.mpr ⟨xML_p4_15, List.forall_mem_cons.mpr ⟨xML_p4_16, List.forall_mem_cons.mpr ⟨xML_p4_17, List.forall_mem_cons.mpr ⟨xML_p4_18, List.forall_mem_cons.mpr ⟨xML_p4_19, List.forall_mem_cons.mpr ⟨xML_p4_20, List.forall_mem_cons.mpr ⟨xML_p4_21, List.forall_mem_cons.mpr ⟨xML_p4_22, List.forall_mem_cons.mpr ⟨xML_p4_23, List.forall_mem_cons.mpr ⟨xML_p4_24, List.forall_mem_cons.mpr ⟨xML_p4_25, List.forall_mem_cons.mpr ⟨xML_p4_26, List.forall_mem_cons.mpr ⟨xML_p4_27, List.forall_mem_cons.mpr ⟨xML_p4_28, List.forall_mem_cons.mpr ⟨xML_p4_29, List.forall_mem_cons.mpr ⟨xML_p4_30, List.forall_mem_cons.mpr ⟨xML_p4_31, List.forall_mem_cons.mpr ⟨xML_p4_32, List.forall_mem_cons.mpr ⟨xML_p4_33, List.forall_mem_cons.mpr ⟨xML_p4_34, List.forall_mem_cons.mpr ⟨xML_p4_35, List.forall_mem_cons.mpr ⟨xML_p4_36, List.forall_mem_cons.mpr ⟨xML_p4_37, List.forall_mem_cons.mpr ⟨xML_p4_38, List.forall_mem_cons.mpr ⟨xML_p4_39, fun _ h => absurd h List.not_mem_nil⟩⟩⟩⟩⟩⟩⟩⟩⟩⟩⟩⟩⟩⟩⟩⟩⟩⟩⟩⟩⟩⟩⟩⟩⟩⟩⟩⟩⟩⟩⟩⟩⟩⟩⟩⟩⟩⟩⟩⟩
set_option maxRecDepth 100000 in
theorem xML_p5_0 : xm_mq (12, 3, 8, 0, 0, 0) := ⟨xh2 (i := 187) rfl rfl, xh1 (i := 38) rfl rfl, xh1 (i := 39) rfl rfl⟩
set_option maxRecDepth 100000 in
theorem xML_p5_1 : xm_mq (12, 26, 0, 295, 1, 0) := ⟨_, xc_295, rfl, xh2 (i := 190) rfl rfl, xh2 (i := 191) rfl rfl⟩
set_option maxRecDepth 100000 in
theorem xML_p5_2 : xm_mq (12, 32, 1, 272, 0, 12) := ⟨_, _, xc_272, rfl, rfl, by decide, xh6 (i := 149) rfl rfl, xh3 (i := 179) rfl rfl, xh3 (i := 180) rfl rfl⟩
set_option maxRecDepth 100000 in
theorem xML_p5_3 : xm_mq (12, 40, 1, 277, 0, 12) := ⟨_, _, xc_277, rfl, rfl, by decide, xh6 (i := 158) rfl rfl, xh3 (i := 183) rfl rfl, xh3 (i := 184) rfl rfl⟩
set_option maxRecDepth 100000 in
theorem xML_p5_4 : xm_mq (12, 83, 6, 263, 0, 13) := ⟨_, _, _, xc_263, rfl, rfl, by decide, xh6 (i := 132) rfl rfl, xh6 (i := 134) rfl rfl, xh6 (i := 135) rfl rfl, xh6 (i := 133) rfl rfl, rfl, rfl⟩
set_option maxRecDepth 100000 in
theorem xML_p5_5 : xm_mq (12, 100, 6, 253, 1, 13) := ⟨_, _, _, xc_253, rfl, rfl, by decide, xh6 (i := 103) rfl rfl, xh9 (i := 222) rfl rfl, xg_ex (i := 0) rfl, xh6 (i := 105) rfl rfl, rfl, rfl⟩
set_option maxRecDepth 100000 in
theorem xML_p5_6 : xm_mq (12, 104, 6, 254, 1, 13) := ⟨_, _, _, xc_254, rfl, rfl, by decide, xh6 (i := 107) rfl rfl, xh9 (i := 223) rfl rfl, xg_ex (i := 1) rfl, xh6 (i := 109) rfl rfl, rfl, rfl⟩
set_option maxRecDepth 100000 in
theorem xML_p5_7 : xm_mq (12, 108, 0, 318, 2, 0) := ⟨_, xc_318, rfl, xh6 (i := 120) rfl rfl, xh6 (i := 121) rfl rfl⟩
set_option maxRecDepth 100000 in
theorem xML_p5_8 : xm_mq (12, 114, 0, 322, 3, 0) := ⟨_, xc_322, rfl, xh6 (i := 111) rfl rfl, xh6 (i := 112) rfl rfl⟩
set_option maxRecDepth 100000 in
theorem xML_p5_9 : xm_mq (12, 125, 0, 294, 5, 0) := ⟨_, xc_294, rfl, xh6 (i := 163) rfl rfl, xh6 (i := 164) rfl rfl⟩
set_option maxRecDepth 100000 in
theorem xML_p5_10 : xm_mq (12, 133, 0, 293, 3, 0) := ⟨_, xc_293, rfl, xh7 (i := 14) rfl rfl, xh7 (i := 15) rfl rfl⟩
set_option maxRecDepth 100000 in
theorem xML_p5_11 : xm_mq (12, 137, 0, 306, 3, 0) := ⟨_, xc_306, rfl, xh7 (i := 49) rfl rfl, xh7 (i := 50) rfl rfl⟩
set_option maxRecDepth 100000 in
theorem xML_p5_12 : xm_mq (12, 138, 12, 0, 0, 0) := ⟨xh7 (i := 94) rfl rfl, xh3 (i := 155) rfl rfl, xh1 (i := 21) rfl rfl, xh3 (i := 156) rfl rfl⟩
set_option maxRecDepth 100000 in
theorem xML_p5_13 : xm_mq (12, 144, 0, 279, 2, 0) := ⟨_, xc_279, rfl, xh7 (i := 95) rfl rfl, xh3 (i := 199) rfl rfl⟩
set_option maxRecDepth 100000 in
theorem xML_p5_14 : xm_mq (12, 148, 0, 298, 2, 0) := ⟨_, xc_298, rfl, xh7 (i := 96) rfl rfl, xh3 (i := 217) rfl rfl⟩
set_option maxRecDepth 100000 in
theorem xML_p5_15 : xm_mq (12, 191, 0, 292, 1, 0) := ⟨_, xc_292, rfl, xh7 (i := 61) rfl rfl, xh7 (i := 62) rfl rfl⟩
set_option maxRecDepth 100000 in
theorem xML_p5_16 : xm_mq (12, 195, 6, 255, 0, 13) := ⟨_, _, _, xc_255, rfl, rfl, by decide, xh6 (i := 159) rfl rfl, xh9 (i := 226) rfl rfl, xg_ex (i := 2) rfl, xh6 (i := 161) rfl rfl, rfl, rfl⟩
set_option maxRecDepth 100000 in
theorem xML_p5_17 : xm_mq (12, 197, 0, 307, 3, 0) := ⟨_, xc_307, rfl, xh7 (i := 64) rfl rfl, xh7 (i := 65) rfl rfl⟩
set_option maxRecDepth 100000 in
theorem xML_p5_18 : xm_mq (12, 204, 6, 259, 0, 13) := ⟨_, _, _, xc_259, rfl, rfl, by decide, xh6 (i := 99) rfl rfl, xh9 (i := 221) rfl rfl, xg_ex (i := 3) rfl, xh6 (i := 101) rfl rfl, rfl, rfl⟩
set_option maxRecDepth 100000 in
theorem xML_p5_19 : xm_mq (12, 208, 6, 265, 2, 13) := ⟨_, _, _, xc_265, rfl, rfl, by decide, xh6 (i := 150) rfl rfl, xh9 (i := 224) rfl rfl, xg_ex (i := 4) rfl, xh6 (i := 152) rfl rfl, rfl, rfl⟩
set_option maxRecDepth 100000 in
theorem xML_p5_20 : xm_mq (12, 226, 0, 309, 6, 0) := ⟨_, xc_309, rfl, xh6 (i := 137) rfl rfl, xh6 (i := 138) rfl rfl⟩
set_option maxRecDepth 100000 in
theorem xML_p5_21 : xm_mq (12, 245, 0, 268, 1, 0) := ⟨_, xc_268, rfl, xh6 (i := 182) rfl rfl, xh6 (i := 183) rfl rfl⟩
set_option maxRecDepth 100000 in
theorem xML_p5_22 : xm_mq (12, 248, 0, 267, 3, 0) := ⟨_, xc_267, rfl, xh6 (i := 185) rfl rfl, xh6 (i := 186) rfl rfl⟩
set_option maxRecDepth 100000 in
theorem xML_p5_23 : xm_mq (12, 251, 0, 308, 4, 0) := ⟨_, xc_308, rfl, xh6 (i := 192) rfl rfl, xh6 (i := 193) rfl rfl⟩
set_option maxRecDepth 100000 in
theorem xML_p5_24 : xm_mq (12, 397, 6, 264, 1, 13) := ⟨_, _, _, xc_264, rfl, rfl, by decide, xh6 (i := 154) rfl rfl, xh9 (i := 225) rfl rfl, xg_ex (i := 5) rfl, xh6 (i := 156) rfl rfl, rfl, rfl⟩
set_option maxRecDepth 100000 in
theorem xML_p5_25 : xm_mq (12, 399, 1, 274, 3, 12) := ⟨_, _, xc_274, rfl, rfl, by decide, xh6 (i := 169) rfl rfl, xh6 (i := 170) rfl rfl, xh6 (i := 171) rfl rfl⟩
set_option maxRecDepth 100000 in
theorem xML_p5_26 : xm_mq (13, 12, 2, 282, 0, 13) := ⟨_, xc_282, rfl, rfl, rfl, xh7 (i := 41) rfl rfl, xh2 (i := 182) rfl rfl⟩
set_option maxRecDepth 100000 in
theorem xML_p5_27 : xm_mq (13, 15, 1, 283, 1, 13) := ⟨_, _, xc_283, rfl, rfl, by decide, xh7 (i := 43) rfl rfl, xh6 (i := 93) rfl rfl, xh6 (i := 94) rfl rfl⟩
set_option maxRecDepth 100000 in
theorem xML_p5_28 : xm_mq (13, 19, 1, 285, 1, 13) := ⟨_, _, xc_285, rfl, rfl, by decide, xh7 (i := 44) rfl rfl, xh6 (i := 176) rfl rfl, xh6 (i := 177) rfl rfl⟩
set_option maxRecDepth 100000 in
theorem xML_p5_29 : xm_mq (13, 22, 1, 286, 0, 13) := ⟨_, _, xc_286, rfl, rfl, by decide, xh7 (i := 45) rfl rfl, xh6 (i := 201) rfl rfl, xh6 (i := 202) rfl rfl⟩
set_option maxRecDepth 100000 in
theorem xML_p5_30 : xm_mq (15, 1, 8, 0, 0, 0) := ⟨xh4 (i := 46) rfl rfl, xh1 (i := 38) rfl rfl, xh1 (i := 39) rfl rfl⟩
set_option maxRecDepth 100000 in
theorem xML_p5_31 : xm_mq (15, 27, 2, 275, 4, 12) := ⟨_, xc_275, rfl, rfl, rfl, xh4 (i := 43) rfl rfl, xh4 (i := 44) rfl rfl⟩
set_option maxRecDepth 100000 in
theorem xML_p5_32 : xm_mq (15, 47, 0, 301, 2, 0) := ⟨_, xc_301, rfl, xh4 (i := 73) rfl rfl, xh4 (i := 74) rfl rfl⟩
set_option maxRecDepth 100000 in
theorem xML_p5_33 : xm_mq (15, 54, 0, 320, 3, 0) := ⟨_, xc_320, rfl, xh6 (i := 225) rfl rfl, xh6 (i := 226) rfl rfl⟩
set_option maxRecDepth 100000 in
theorem xML_p5_34 : xm_mq (15, 106, 0, 294, 5, 0) := ⟨_, xc_294, rfl, xh6 (i := 174) rfl rfl, xh6 (i := 164) rfl rfl⟩
set_option maxRecDepth 100000 in
theorem xML_p5_35 : xm_mq (15, 177, 0, 302, 3, 0) := ⟨_, xc_302, rfl, xh4 (i := 48) rfl rfl, xh4 (i := 49) rfl rfl⟩
set_option maxRecDepth 100000 in
theorem xML_p5_36 : xm_mq (15, 180, 0, 300, 3, 0) := ⟨_, xc_300, rfl, xh4 (i := 76) rfl rfl, xh4 (i := 55) rfl rfl⟩
set_option maxRecDepth 100000 in
theorem xML_p5_37 : xm_mq (15, 212, 9, 102, 0, 0) := ⟨xh6 (i := 173) rfl rfl, xh3 (i := 36) rfl rfl, xh3 (i := 35) rfl rfl, xh1 (i := 25) rfl rfl, Or.inr (Or.inr rfl)⟩
set_option maxRecDepth 100000 in
theorem xML_p5_38 : xm_mq (15, 335, 1, 277, 0, 12) := ⟨_, _, xc_277, rfl, rfl, by decide, xh3 (i := 182) rfl rfl, xh3 (i := 183) rfl rfl, xh3 (i := 184) rfl rfl⟩
set_option maxRecDepth 100000 in
theorem xML_p5_39 : xm_mq (15, 489, 2, 276, 2, 12) := ⟨_, xc_276, rfl, rfl, rfl, xh6 (i := 208) rfl rfl, xh6 (i := 209) rfl rfl⟩
def xML_5 : List (Nat × Nat × Nat × Nat × Nat × Nat) := [(12, 3, 8, 0, 0, 0), (12, 26, 0, 295, 1, 0), (12, 32, 1, 272, 0, 12), (12, 40, 1, 277, 0, 12), (12, 83, 6, 263, 0, 13), (12, 100, 6, 253, 1, 13), (12, 104, 6, 254, 1, 13), (12, 108, 0, 318, 2, 0), (12, 114, 0, 322, 3, 0), (12, 125, 0, 294, 5, 0), (12, 133, 0, 293, 3, 0), (12, 137, 0, 306, 3, 0), (12, 138, 12, 0, 0, 0), (12, 144, 0, 279, 2, 0), (12, 148, 0, 298, 2, 0), (12, 191, 0, 292, 1, 0), (12, 195, 6, 255, 0, 13), (12, 197, 0, 307, 3, 0), (12, 204, 6, 259, 0, 13), (12, 208, 6, 265, 2, 13), (12, 226, 0, 309, 6, 0), (12, 245, 0, 268, 1, 0), (12, 248, 0, 267, 3, 0), (12, 251, 0, 308, 4, 0), (12, 397, 6, 264, 1, 13), (12, 399, 1, 274, 3, 12), (13, 12, 2, 282, 0, 13), (13, 15, 1, 283, 1, 13), (13, 19, 1, 285, 1, 13), (13, 22, 1, 286, 0, 13), (15, 1, 8, 0, 0, 0), (15, 27, 2, 275, 4, 12), (15, 47, 0, 301, 2, 0), (15, 54, 0, 320, 3, 0), (15, 106, 0, 294, 5, 0), (15, 177, 0, 302, 3, 0), (15, 180, 0, 300, 3, 0), (15, 212, 9, 102, 0, 0), (15, 335, 1, 277, 0, 12), (15, 489, 2, 276, 2, 12)]
theorem xML_ok5 : ∀ q ∈ xML_5, xm_mq q := List.forall_mem_cons.mpr ⟨xML_p5_0, List.forall_mem_cons.mpr ⟨xML_p5_1, List.forall_mem_cons.mpr ⟨xML_p5_2, List.forall_mem_cons.mpr ⟨xML_p5_3, List.forall_mem_cons.mpr ⟨xML_p5_4, List.forall_mem_cons.mpr ⟨xML_p5_5, List.forall_mem_cons.mpr ⟨xML_p5_6, List.forall_mem_cons.mpr ⟨xML_p5_7, List.forall_mem_cons.mpr ⟨xML_p5_8, List.forall_mem_cons.mpr ⟨xML_p5_9, List.forall_mem_cons.mpr ⟨xML_p5_10, List.forall_mem_cons.mpr ⟨xML_p5_11, List.forall_mem_cons.mpr ⟨xML_p5_12, List.forall_mem_cons.mpr ⟨xML_p5_13, List.forall_mem_cons.mpr ⟨xML_p5_14, List.forall_mem_cons.mpr ⟨xML_p5_15, List.forall_mem_cons.mpr ⟨xML_p5_16, List.forall_mem_cons.mpr ⟨xML_p5_17, List.forall_mem_cons.mpr ⟨xML_p5_18, List.forall_mem_cons.mpr ⟨xML_p5_19, List.forall_mem_cons.mpr ⟨xML_p5_20, List.forall_mem_cons.mpr ⟨xML_p5_21, List.forall_mem_cons.mpr ⟨xML_p5_22, List.forall_mem_cons.mpr ⟨xML_p5_23, List.forall_mem_cons.mpr ⟨xML_p5_24, List.forall_mem_cons.mpr ⟨xML_p5_25, List.forall_mem_cons.mpr ⟨xML_p5_26, List.forall_mem_cons.mpr ⟨xML_p5_27, List.forall_mem_cons.mpr ⟨xML_p5_28, List.forall_mem_cons.mpr ⟨xML_p5_29, List.forall_mem_cons.mpr ⟨xML_p5_30, List.forall_mem_cons.mpr ⟨xML_p5_31, List.forall_mem_cons.mpr ⟨xML_p5_32, List.forall_mem_cons.mpr ⟨xML_p5_33, List.forall_mem_cons.mpr ⟨xML_p5_34, List.forall_mem_cons.mpr ⟨xML_p5_35, List.forall_mem_cons.mpr ⟨xML_p5_36, List.forall_mem_cons.mpr ⟨xML_p5_37, List.forall_mem_cons.mpr ⟨xML_p5_38, List.forall_mem_cons.mpr ⟨xML_p5_39, fun _ h => absurd h List.not_mem_nil⟩⟩⟩⟩⟩⟩⟩⟩⟩⟩⟩⟩⟩⟩⟩⟩⟩⟩⟩⟩⟩⟩⟩⟩⟩⟩⟩⟩⟩⟩⟩⟩⟩⟩⟩⟩⟩⟩⟩⟩
set_option maxRecDepth 100000 in
theorem xML_p6_0 : xm_mq (15, 492, 1, 278, 0, 12) := ⟨_, _, xc_278, rfl, rfl, by decide, xh3 (i := 191) rfl rfl, xh3 (i := 192) rfl rfl, xh3 (i := 193) rfl rfl⟩
set_option maxRecDepth 100000 in
theorem xML_p6_1 : xm_mq (15, 495, 0, 291, 2, 0) := ⟨_, xc_291, rfl, xh3 (i := 195) rfl rfl, xh3 (i := 196) rfl rfl⟩
set_option maxRecDepth 100000 in
theorem xML_p6_2 : xm_mq (15, 498, 0, 310, 2, 0) := ⟨_, xc_310, rfl, xh3 (i := 206) rfl rfl, xh3 (i := 207) rfl rfl⟩
set_option maxRecDepth 100000 in
theorem xML_p6_3 : xm_mq (15, 552, 6, 262, 0, 13) := ⟨_, _, _, xc_262, rfl, rfl, by decide, xh6 (i := 211) rfl rfl, xh6 (i := 213) rfl rfl, xh6 (i := 214) rfl rfl, xh6 (i := 212) rfl rfl, rfl, rfl⟩
set_option maxRecDepth 100000 in
theorem xML_p6_4 : xm_mq (15, 1047, 6, 263, 0, 13) := ⟨_, _, _, xc_263, rfl, rfl, by decide, xh6 (i := 224) rfl rfl, xh6 (i := 134) rfl rfl, xh6 (i := 135) rfl rfl, xh6 (i := 133) rfl rfl, rfl, rfl⟩
set_option maxRecDepth 100000 in
theorem xML_p6_5 : xm_mq (15, 1051, 0, 303, 3, 0) := ⟨_, xc_303, rfl, xh7 (i := 2) rfl rfl, xh7 (i := 3) rfl rfl⟩
set_option maxRecDepth 100000 in
theorem xML_p6_6 : xm_mq (15, 1059, 0, 324, 3, 0) := ⟨_, xc_324, rfl, xh3 (i := 203) rfl rfl, xh3 (i := 204) rfl rfl⟩
set_option maxRecDepth 100000 in
theorem xML_p6_7 : xm_mq (15, 1062, 0, 325, 4, 0) := ⟨_, xc_325, rfl, xh6 (i := 146) rfl rfl, xh6 (i := 147) rfl rfl⟩
set_option maxRecDepth 100000 in
theorem xML_p6_8 : xm_mq (15, 1065, 0, 326, 4, 0) := ⟨_, xc_326, rfl, xh4 (i := 70) rfl rfl, xh4 (i := 71) rfl rfl⟩
set_option maxRecDepth 100000 in
theorem xML_p6_9 : xm_mq (16, 1, 2, 251, 1, 13) := ⟨_, xc_251, rfl, rfl, rfl, xh2 (i := 184) rfl rfl, xh2 (i := 185) rfl rfl⟩
set_option maxRecDepth 100000 in
theorem xML_p6_10 : xm_mq (16, 29, 7, 258, 1, 13) := ⟨_, _, xc_258, rfl, rfl, by decide, by decide, xh6 (i := 96) rfl rfl, xh9 (i := 220) rfl rfl, xh2 (i := 210) rfl rfl, xh6 (i := 97) rfl rfl⟩
set_option maxRecDepth 100000 in
theorem xML_p6_11 : xm_mq (16, 50, 7, 260, 1, 13) := ⟨_, _, xc_260, rfl, rfl, by decide, by decide, xh7 (i := 58) rfl rfl, xh9 (i := 228) rfl rfl, xh2 (i := 210) rfl rfl, xh7 (i := 59) rfl rfl⟩
set_option maxRecDepth 100000 in
theorem xML_p6_12 : xm_mq (16, 53, 7, 261, 1, 13) := ⟨_, _, xc_261, rfl, rfl, by decide, by decide, xh6 (i := 179) rfl rfl, xh9 (i := 227) rfl rfl, xh2 (i := 210) rfl rfl, xh6 (i := 180) rfl rfl⟩
set_option maxRecDepth 100000 in
theorem xML_p6_13 : xm_mq (16, 137, 2, 271, 1, 12) := ⟨_, xc_271, rfl, rfl, rfl, xh6 (i := 205) rfl rfl, xh6 (i := 206) rfl rfl⟩
set_option maxRecDepth 100000 in
theorem xML_p6_14 : xm_mq (16, 329, 7, 257, 1, 13) := ⟨_, _, xc_257, rfl, rfl, by decide, by decide, xh7 (i := 91) rfl rfl, xh9 (i := 230) rfl rfl, xh2 (i := 210) rfl rfl, xh7 (i := 92) rfl rfl⟩
set_option maxRecDepth 100000 in
theorem xML_p6_15 : xm_mq (16, 333, 7, 256, 1, 13) := ⟨_, _, xc_256, rfl, rfl, by decide, by decide, xh6 (i := 81) rfl rfl, xh9 (i := 219) rfl rfl, xh2 (i := 210) rfl rfl, xh6 (i := 82) rfl rfl⟩
set_option maxRecDepth 100000 in
theorem xML_p6_16 : xm_mq (16, 343, 7, 252, 0, 13) := ⟨_, _, xc_252, rfl, rfl, by decide, by decide, xh6 (i := 222) rfl rfl, xh6 (i := 218) rfl rfl, xh2 (i := 210) rfl rfl, xh6 (i := 217) rfl rfl⟩
set_option maxRecDepth 100000 in
theorem xML_p6_17 : xm_mq (17, 12, 2, 282, 0, 13) := ⟨_, xc_282, rfl, rfl, rfl, xh6 (i := 90) rfl rfl, xh2 (i := 182) rfl rfl⟩
set_option maxRecDepth 100000 in
theorem xML_p6_18 : xm_mq (17, 15, 1, 283, 1, 13) := ⟨_, _, xc_283, rfl, rfl, by decide, xh6 (i := 92) rfl rfl, xh6 (i := 93) rfl rfl, xh6 (i := 94) rfl rfl⟩
set_option maxRecDepth 100000 in
theorem xML_p6_19 : xm_mq (17, 19, 1, 285, 1, 13) := ⟨_, _, xc_285, rfl, rfl, by decide, xh6 (i := 175) rfl rfl, xh6 (i := 176) rfl rfl, xh6 (i := 177) rfl rfl⟩
set_option maxRecDepth 100000 in
theorem xML_p6_20 : xm_mq (17, 22, 1, 286, 0, 13) := ⟨_, _, xc_286, rfl, rfl, by decide, xh6 (i := 200) rfl rfl, xh6 (i := 201) rfl rfl, xh6 (i := 202) rfl rfl⟩
set_option maxRecDepth 100000 in
theorem xML_p6_21 : xm_mq (18, 9, 0, 279, 2, 0) := ⟨_, xc_279, rfl, xh3 (i := 198) rfl rfl, xh3 (i := 199) rfl rfl⟩
set_option maxRecDepth 100000 in
theorem xML_p6_22 : xm_mq (18, 236, 0, 317, 4, 0) := ⟨_, xc_317, rfl, xh7 (i := 17) rfl rfl, xh7 (i := 18) rfl rfl⟩
set_option maxRecDepth 100000 in
theorem xML_p6_23 : xm_mq (18, 240, 0, 311, 5, 0) := ⟨_, xc_311, rfl, xh6 (i := 166) rfl rfl, xh6 (i := 167) rfl rfl⟩
set_option maxRecDepth 100000 in
theorem xML_p6_24 : xm_mq (19, 11, 0, 296, 1, 0) := ⟨_, xc_296, rfl, xh2 (i := 193) rfl rfl, xh2 (i := 194) rfl rfl⟩
set_option maxRecDepth 100000 in
theorem xML_p6_25 : xm_mq (19, 48, 0, 299, 1, 0) := ⟨_, xc_299, rfl, xh3 (i := 212) rfl rfl, xh3 (i := 213) rfl rfl⟩
set_option maxRecDepth 100000 in
theorem xML_p6_26 : xm_mq (19, 67, 0, 313, 2, 0) := ⟨_, xc_313, rfl, xh3 (i := 209) rfl rfl, xh3 (i := 210) rfl rfl⟩
set_option maxRecDepth 100000 in
theorem xML_p6_27 : xm_mq (19, 71, 0, 298, 2, 0) := ⟨_, xc_298, rfl, xh3 (i := 216) rfl rfl, xh3 (i := 217) rfl rfl⟩
set_option maxRecDepth 100000 in
theorem xML_p6_28 : xm_mq (19, 96, 0, 314, 3, 0) := ⟨_, xc_314, rfl, xh6 (i := 140) rfl rfl, xh6 (i := 141) rfl rfl⟩
set_option maxRecDepth 100000 in
theorem xML_p6_29 : xm_mq (19, 107, 0, 295, 1, 0) := ⟨_, xc_295, rfl, xh4 (i := 57) rfl rfl, xh2 (i := 191) rfl rfl⟩
set_option maxRecDepth 100000 in
theorem xML_p6_30 : xm_mq (19, 111, 0, 297, 3, 0) := ⟨_, xc_297, rfl, xh4 (i := 58) rfl rfl, xh4 (i := 59) rfl rfl⟩
set_option maxRecDepth 100000 in
theorem xML_p6_31 : xm_mq (19, 115, 0, 304, 5, 0) := ⟨_, xc_304, rfl, xh4 (i := 51) rfl rfl, xh4 (i := 52) rfl rfl⟩
set_option maxRecDepth 100000 in
theorem xML_p6_32 : xm_mq (19, 119, 0, 300, 3, 0) := ⟨_, xc_300, rfl, xh4 (i := 54) rfl rfl, xh4 (i := 55) rfl rfl⟩
set_option maxRecDepth 100000 in
theorem xML_p6_33 : xm_mq (19, 123, 0, 305, 5, 0) := ⟨_, xc_305, rfl, xh4 (i := 61) rfl rfl, xh4 (i := 62) rfl rfl⟩
set_option maxRecDepth 100000 in
theorem xML_p6_34 : xm_mq (19, 126, 0, 320, 3, 0) := ⟨_, xc_320, rfl, xh7 (i := 5) rfl rfl, xh6 (i := 226) rfl rfl⟩
set_option maxRecDepth 100000 in
theorem xML_p6_35 : xm_mq (19, 173, 0, 315, 3, 0) := ⟨_, xc_315, rfl, xh4 (i := 64) rfl rfl, xh4 (i := 65) rfl rfl⟩
set_option maxRecDepth 100000 in
theorem xML_p6_36 : xm_mq (19, 241, 0, 281, 3, 0) := ⟨_, xc_281, rfl, xh6 (i := 143) rfl rfl, xh6 (i := 144) rfl rfl⟩
set_option maxRecDepth 100000 in
theorem xML_p6_37 : xm_mq (19, 380, 0, 317, 4, 0) := ⟨_, xc_317, rfl, xh7 (i := 52) rfl rfl, xh7 (i := 18) rfl rfl⟩
set_option maxRecDepth 100000 in
theorem xML_p6_38 : xm_mq (19, 393, 0, 312, 3, 0) := ⟨_, xc_312, rfl, xh6 (i := 195) rfl rfl, xh6 (i := 196) rfl rfl⟩
set_option maxRecDepth 100000 in
theorem xML_p6_39 : xm_mq (19, 414, 0, 279, 2, 0) := ⟨_, xc_279, rfl, xh3 (i := 215) rfl rfl, xh3 (i := 199) rfl rfl⟩
def xML_6 : List (Nat × Nat × Nat × Nat × Nat × Nat) := [(15, 492, 1, 278, 0, 12), (15, 495, 0, 291, 2, 0), (15, 498, 0, 310, 2, 0), (15, 552, 6, 262, 0, 13), (15, 1047, 6, 263, 0, 13), (15, 1051, 0, 303, 3, 0), (15, 1059, 0, 324, 3, 0), (15, 1062, 0, 325, 4, 0), (15, 1065, 0, 326, 4, 0), (16, 1, 2, 251, 1, 13), (16, 29, 7, 258, 1, 13), (16, 50, 7, 260, 1, 13), (16, 53, 7, 261, 1, 13), (16, 137, 2, 271, 1, 12), (16, 329, 7, 257, 1, 13), (16, 333, 7, 256, 1, 13), (16, 343, 7, 252, 0, 13), (17, 12, 2, 282, 0, 13), (17, 15, 1, 283, 1, 13), (17, 19, 1, 285, 1, 13), (17, 22, 1, 286, 0, 13), (18, 9, 0, 279, 2, 0), (18, 236, 0, 317, 4, 0), (18, 240, 0, 311, 5, 0), (19, 11, 0, 296, 1, 0), (19, 48, 0, 299, 1, 0), (19, 67, 0, 313, 2, 0), (19, 71, 0, 298, 2, 0), (19, 96, 0, 314, 3, 0), (19, 107, 0, 295, 1, 0), (19, 111, 0, 297, 3, 0), (19, 115, 0, 304, 5, 0), (19, 119, 0, 300, 3, 0), (19, 123, 0, 305, 5, 0), (19, 126, 0, 320, 3, 0), (19, 173, 0, 315, 3, 0), (19, 241, 0, 281, 3, 0), (19, 380, 0, 317, 4, 0), (19, 393, 0, 312, 3, 0), (19, 414, 0, 279, 2, 0)]
theorem xML_ok6 : ∀ q ∈ xML_6, xm_mq q := List.forall_mem_cons.mpr ⟨xML_p6_0, List.forall_mem_cons.mpr ⟨xML_p6_1, List.forall_mem_cons.mpr ⟨xML_p6_2, List.forall_mem_cons.mpr ⟨xML_p6_3, List.forall_mem_cons.mpr ⟨xML_p6_4, List.forall_mem_cons.mpr ⟨xML_p6_5, List.forall_mem_cons.mpr ⟨xML_p6_6, List.forall_mem_cons.mpr ⟨xML_p6_7, List.forall_mem_cons.mpr ⟨xML_p6_8, List.forall_mem_cons.mpr ⟨xML_p6_9, List.forall_mem_cons.mpr ⟨xML_p6_10, List.forall_mem_cons.mpr ⟨xML_p6_11, List.forall_mem_cons.mpr ⟨xML_p6_12, List.forall_mem_cons.mpr ⟨xML_p6_13, List.forall_mem_cons.mpr ⟨xML_p6_14, List.forall_mem_cons.mpr ⟨xML_p6_15, List.forall_mem_cons.mpr ⟨xML_p6_16, List.forall_mem_cons.mpr ⟨xML_p6_17, List.forall_mem_cons.mpr ⟨xML_p6_18, List.forall_mem_cons.mpr ⟨xML_p6_19, List.forall_mem_cons.mpr ⟨xML_p6_20, List.forall_mem_cons.mpr ⟨xML_p6_21, List.forall_mem_cons.mpr ⟨xML_p6_22, List.forall_mem_cons.mpr ⟨xML_p6_23, List.forall_mem_cons.mpr ⟨xML_p6_24, List.forall_mem_cons.mpr ⟨xML_p6_25, List.forall_mem_cons.mpr ⟨xML_p6_26, List.forall_mem_cons.mpr ⟨xML_p6_27, List.forall_mem_cons.mpr ⟨xML_p6_28, List.forall_mem_cons.mpr ⟨xML_p6_29, List.forall_mem_cons.mpr ⟨xML_p6_30, List.forall_mem_cons.mpr ⟨xML_p6_31, List.forall_mem_cons.mpr ⟨xML_p6_32, List.forall_mem_cons.mpr ⟨xML_p6_33, List.forall_mem_cons.mpr ⟨xML_p6_34, List.forall_mem_cons.mpr ⟨xML_p6_35, List.forall_mem_cons.mpr ⟨xML_p6_36, List.forall_mem_cons.mpr ⟨xML_p6_37, List.forall_mem_cons.mpr ⟨xML_p6_38, List.forall_mem_cons.mpr ⟨xML_p6_39, fun _ h => absurd h List.not_mem_nil⟩⟩⟩⟩⟩⟩⟩⟩⟩⟩⟩⟩⟩⟩⟩⟩⟩⟩⟩⟩⟩⟩⟩⟩⟩⟩⟩⟩⟩⟩⟩⟩⟩⟩⟩⟩⟩⟩⟩⟩
set_option maxRecDepth 100000 in
theorem xML_p7_0 : xm_mq (19, 419, 0, 280, 3, 0) := ⟨_, xc_280, rfl, xh4 (i := 67) rfl rfl, xh4 (i := 68) rfl rfl⟩
set_option maxRecDepth 100000 in
theorem xML_p7_1 : xm_mq (20, 13, 0, 316, 3, 0) := ⟨_, xc_316, rfl, xh7 (i := 20) rfl rfl, xh7 (i := 21) rfl rfl⟩
set_option maxRecDepth 100000 in
theorem xML_p7_2 : xm_mq (20, 47, 2, 282, 0, 13) := ⟨_, xc_282, rfl, rfl, rfl, xh6 (i := 236) rfl rfl, xh2 (i := 182) rfl rfl⟩
set_option maxRecDepth 100000 in
theorem xML_p7_3 : xm_mq (20, 50, 1, 283, 1, 13) := ⟨_, _, xc_283, rfl, rfl, by decide, xh6 (i := 239) rfl rfl, xh6 (i := 93) rfl rfl, xh6 (i := 94) rfl rfl⟩
set_option maxRecDepth 100000 in
theorem xML_p7_4 : xm_mq (20, 54, 1, 285, 1, 13) := ⟨_, _, xc_285, rfl, rfl, by decide, xh6 (i := 237) rfl rfl, xh6 (i := 176) rfl rfl, xh6 (i := 177) rfl rfl⟩
set_option maxRecDepth 100000 in
theorem xML_p7_5 : xm_mq (20, 61, 1, 286, 0, 13) := ⟨_, _, xc_286, rfl, rfl, by decide, xh7 (i := 0) rfl rfl, xh6 (i := 201) rfl rfl, xh6 (i := 202) rfl rfl⟩
set_option maxRecDepth 100000 in
theorem xML_p7_6 : xm_mq (20, 150, 9, 102, 0, 0) := ⟨xh6 (i := 131) rfl rfl, xh3 (i := 36) rfl rfl, xh3 (i := 35) rfl rfl, xh1 (i := 25) rfl rfl, Or.inr (Or.inr rfl)⟩
set_option maxRecDepth 100000 in
theorem xML_p7_7 : xm_mq (20, 304, 12, 0, 0, 0) := ⟨xh6 (i := 130) rfl rfl, xh3 (i := 155) rfl rfl, xh1 (i := 21) rfl rfl, xh3 (i := 156) rfl rfl⟩
set_option maxRecDepth 100000 in
theorem xML_p7_8 : xm_mq (20, 339, 0, 321, 3, 0) := ⟨_, xc_321, rfl, xh6 (i := 228) rfl rfl, xh6 (i := 229) rfl rfl⟩
set_option maxRecDepth 100000 in
theorem xML_p7_9 : xm_mq (20, 343, 0, 319, 2, 0) := ⟨_, xc_319, rfl, xh6 (i := 231) rfl rfl, xh6 (i := 232) rfl rfl⟩
set_option maxRecDepth 100000 in
theorem xML_p7_10 : xm_mq (21, 194, 11, 0, 0, 0) := ⟨xh6 (i := 114) rfl rfl, xh5 (i := 41) rfl rfl, xh1 (i := 21) rfl rfl, xh5 (i := 42) rfl rfl⟩
set_option maxRecDepth 100000 in
theorem xML_p7_11 : xm_mq (21, 201, 0, 323, 2, 0) := ⟨_, xc_323, rfl, xh6 (i := 116) rfl rfl, xh6 (i := 117) rfl rfl⟩
set_option maxRecDepth 100000 in
theorem xML_p7_12 : xm_mq (23, 7, 1, 74, 1, 0) := ⟨_, _, xc_74, rfl, rfl, by decide, xh3 (i := 69) rfl rfl, xh3 (i := 70) rfl rfl, xh3 (i := 71) rfl rfl⟩
set_option maxRecDepth 100000 in
theorem xML_p7_13 : xm_mq (23, 15, 1, 80, 1, 0) := ⟨_, _, xc_80, rfl, rfl, by decide, xh4 (i := 130) rfl rfl, xh4 (i := 131) rfl rfl, xh4 (i := 132) rfl rfl⟩
set_option maxRecDepth 100000 in
theorem xML_p7_14 : xm_mq (23, 20, 1, 81, 1, 0) := ⟨_, _, xc_81, rfl, rfl, by decide, xh4 (i := 157) rfl rfl, xh4 (i := 158) rfl rfl, xh4 (i := 159) rfl rfl⟩
set_option maxRecDepth 100000 in
theorem xML_p7_15 : xm_mq (23, 23, 1, 82, 1, 0) := ⟨_, _, xc_82, rfl, rfl, by decide, xh4 (i := 169) rfl rfl, xh4 (i := 170) rfl rfl, xh4 (i := 171) rfl rfl⟩
set_option maxRecDepth 100000 in
theorem xML_p7_16 : xm_mq (23, 26, 1, 83, 1, 0) := ⟨_, _, xc_83, rfl, rfl, by decide, xh4 (i := 183) rfl rfl, xh4 (i := 184) rfl rfl, xh4 (i := 185) rfl rfl⟩
set_option maxRecDepth 100000 in
theorem xML_p7_17 : xm_mq (23, 29, 1, 84, 1, 0) := ⟨_, _, xc_84, rfl, rfl, by decide, xh4 (i := 190) rfl rfl, xh4 (i := 191) rfl rfl, xh4 (i := 192) rfl rfl⟩
set_option maxRecDepth 100000 in
theorem xML_p7_18 : xm_mq (23, 32, 1, 85, 1, 0) := ⟨_, _, xc_85, rfl, rfl, by decide, xh4 (i := 197) rfl rfl, xh4 (i := 198) rfl rfl, xh4 (i := 199) rfl rfl⟩
set_option maxRecDepth 100000 in
theorem xML_p7_19 : xm_mq (23, 35, 1, 86, 1, 0) := ⟨_, _, xc_86, rfl, rfl, by decide, xh4 (i := 204) rfl rfl, xh4 (i := 205) rfl rfl, xh4 (i := 206) rfl rfl⟩
set_option maxRecDepth 100000 in
theorem xML_p7_20 : xm_mq (23, 38, 1, 87, 1, 0) := ⟨_, _, xc_87, rfl, rfl, by decide, xh4 (i := 215) rfl rfl, xh4 (i := 216) rfl rfl, xh4 (i := 217) rfl rfl⟩
set_option maxRecDepth 100000 in
theorem xML_p7_21 : xm_mq (23, 41, 1, 89, 3, 0) := ⟨_, _, xc_89, rfl, rfl, by decide, xh4 (i := 222) rfl rfl, xh4 (i := 223) rfl rfl, xh4 (i := 224) rfl rfl⟩
set_option maxRecDepth 100000 in
theorem xML_p7_22 : xm_mq (23, 45, 1, 90, 3, 0) := ⟨_, _, xc_90, rfl, rfl, by decide, xh5 (i := 5) rfl rfl, xh5 (i := 6) rfl rfl, xh5 (i := 7) rfl rfl⟩
set_option maxRecDepth 100000 in
theorem xML_p7_23 : xm_mq (23, 48, 1, 91, 3, 0) := ⟨_, _, xc_91, rfl, rfl, by decide, xh5 (i := 24) rfl rfl, xh5 (i := 25) rfl rfl, xh5 (i := 26) rfl rfl⟩
set_option maxRecDepth 100000 in
theorem xML_p7_24 : xm_mq (23, 51, 1, 92, 3, 0) := ⟨_, _, xc_92, rfl, rfl, by decide, xh5 (i := 46) rfl rfl, xh5 (i := 47) rfl rfl, xh5 (i := 48) rfl rfl⟩
set_option maxRecDepth 100000 in
theorem xML_p7_25 : xm_mq (23, 54, 1, 93, 4, 0) := ⟨_, _, xc_93, rfl, rfl, by decide, xh5 (i := 53) rfl rfl, xh5 (i := 54) rfl rfl, xh5 (i := 55) rfl rfl⟩
set_option maxRecDepth 100000 in
theorem xML_p7_26 : xm_mq (23, 58, 1, 94, 3, 0) := ⟨_, _, xc_94, rfl, rfl, by decide, xh5 (i := 73) rfl rfl, xh5 (i := 74) rfl rfl, xh5 (i := 75) rfl rfl⟩
set_option maxRecDepth 100000 in
theorem xML_p7_27 : xm_mq (23, 61, 1, 95, 3, 0) := ⟨_, _, xc_95, rfl, rfl, by decide, xh5 (i := 93) rfl rfl, xh5 (i := 94) rfl rfl, xh5 (i := 95) rfl rfl⟩
set_option maxRecDepth 100000 in
theorem xML_p7_28 : xm_mq (23, 64, 1, 96, 4, 0) := ⟨_, _, xc_96, rfl, rfl, by decide, xh5 (i := 123) rfl rfl, xh5 (i := 124) rfl rfl, xh5 (i := 125) rfl rfl⟩
set_option maxRecDepth 100000 in
theorem xML_p7_29 : xm_mq (23, 67, 1, 97, 4, 0) := ⟨_, _, xc_97, rfl, rfl, by decide, xh5 (i := 130) rfl rfl, xh5 (i := 131) rfl rfl, xh5 (i := 132) rfl rfl⟩
set_option maxRecDepth 100000 in
theorem xML_p7_30 : xm_mq (23, 70, 1, 99, 3, 0) := ⟨_, _, xc_99, rfl, rfl, by decide, xh5 (i := 146) rfl rfl, xh5 (i := 147) rfl rfl, xh5 (i := 148) rfl rfl⟩
set_option maxRecDepth 100000 in
theorem xML_p7_31 : xm_mq (23, 75, 1, 100, 1, 0) := ⟨_, _, xc_100, rfl, rfl, by decide, xh5 (i := 174) rfl rfl, xh5 (i := 175) rfl rfl, xh5 (i := 176) rfl rfl⟩
set_option maxRecDepth 100000 in
theorem xML_p7_32 : xm_mq (23, 78, 1, 101, 2, 0) := ⟨_, _, xc_101, rfl, rfl, by decide, xh5 (i := 182) rfl rfl, xh5 (i := 183) rfl rfl, xh5 (i := 184) rfl rfl⟩
set_option maxRecDepth 100000 in
theorem xML_p7_33 : xm_mq (23, 82, 1, 103, 1, 0) := ⟨_, _, xc_103, rfl, rfl, by decide, xh5 (i := 202) rfl rfl, xh5 (i := 203) rfl rfl, xh5 (i := 204) rfl rfl⟩
set_option maxRecDepth 100000 in
theorem xML_p7_34 : xm_mq (23, 85, 1, 104, 1, 0) := ⟨_, _, xc_104, rfl, rfl, by decide, xh5 (i := 211) rfl rfl, xh5 (i := 212) rfl rfl, xh5 (i := 213) rfl rfl⟩
set_option maxRecDepth 100000 in
theorem xML_p7_35 : xm_mq (23, 88, 1, 105, 2, 0) := ⟨_, _, xc_105, rfl, rfl, by decide, xh5 (i := 219) rfl rfl, xh5 (i := 220) rfl rfl, xh5 (i := 221) rfl rfl⟩
set_option maxRecDepth 100000 in
theorem xML_p7_36 : xm_mq (23, 91, 1, 106, 2, 0) := ⟨_, _, xc_106, rfl, rfl, by decide, xh5 (i := 226) rfl rfl, xh5 (i := 227) rfl rfl, xh5 (i := 228) rfl rfl⟩
set_option maxRecDepth 100000 in
theorem xML_p7_37 : xm_mq (23, 94, 1, 107, 2, 0) := ⟨_, _, xc_107, rfl, rfl, by decide, xh5 (i := 234) rfl rfl, xh5 (i := 235) rfl rfl, xh5 (i := 236) rfl rfl⟩
set_option maxRecDepth 100000 in
theorem xML_p7_38 : xm_mq (23, 97, 1, 108, 2, 0) := ⟨_, _, xc_108, rfl, rfl, by decide, xh6 (i := 1) rfl rfl, xh6 (i := 2) rfl rfl, xh6 (i := 3) rfl rfl⟩
set_option maxRecDepth 100000 in
theorem xML_p7_39 : xm_mq (23, 100, 1, 111, 2, 0) := ⟨_, _, xc_111, rfl, rfl, by decide, xh6 (i := 8) rfl rfl, xh6 (i := 9) rfl rfl, xh6 (i := 10) rfl rfl⟩
def xML_7 : List (Nat × Nat × Nat × Nat × Nat × Nat) := [(19, 419, 0, 280, 3, 0), (20, 13, 0, 316, 3, 0), (20, 47, 2, 282, 0, 13), (20, 50, 1, 283, 1, 13), (20, 54, 1, 285, 1, 13), (20, 61, 1, 286, 0, 13), (20, 150, 9, 102, 0, 0), (20, 304, 12, 0, 0, 0), (20, 339, 0, 321, 3, 0), (20, 343, 0, 319, 2, 0), (21, 194, 11, 0, 0, 0), (21, 201, 0, 323, 2, 0), (23, 7, 1, 74, 1, 0), (23, 15, 1, 80, 1, 0), (23, 20, 1, 81, 1, 0), (23, 23, 1, 82, 1, 0), (23, 26, 1, 83, 1, 0), (23, 29, 1, 84, 1, 0), (23, 32, 1, 85, 1, 0), (23, 35, 1, 86, 1, 0), (23, 38, 1, 87, 1, 0), (23, 41, 1, 89, 3, 0), (23, 45, 1, 90, 3, 0), (23, 48, 1, 91, 3, 0), (23, 51, 1, 92, 3, 0), (23, 54, 1, 93, 4, 0), (23, 58, 1, 94, 3, 0), (23, 61, 1, 95, 3, 0), (23, 64, 1, 96, 4, 0), (23, 67, 1, 97, 4, 0), (23, 70, 1, 99, 3, 0), (23, 75, 1, 100, 1, 0), (23, 78, 1, 101, 2, 0), (23, 82, 1, 103, 1, 0), (23, 85, 1, 104, 1, 0), (23, 88, 1, 105, 2, 0), (23, 91, 1, 106, 2, 0), (23, 94, 1, 107, 2, 0), (23, 97, 1, 108, 2, 0), (23, 100, 1, 111, 2, 0)]
theorem xML_ok7 : ∀ q ∈ xML_7, xm_mq q := List.forall_mem_cons.mpr ⟨xML_p7_0, List.forall_mem_cons.mpr ⟨xML_p7_1, List.forall_mem_cons.mpr ⟨xML_p7_2, List.forall_mem_cons.mpr ⟨xML_p7_3, List.forall_mem_cons.mpr ⟨xML_p7_4, List.forall_mem_cons.mpr ⟨xML_p7_5, List.forall_mem_cons.mpr ⟨xML_p7_6, List.forall_mem_cons.mpr ⟨xML_p7_7, List.forall_mem_cons.mpr ⟨xML_p7_8, List.forall_mem_cons.mpr ⟨xML_p7_9, List.forall_mem_cons.mpr ⟨xML_p7_10, List.forall_mem_cons.mpr ⟨xML_p7_11, List.forall_mem_cons.mpr ⟨xML_p7_12, List.forall_mem_cons.mpr ⟨xML_p7_13, List.forall_mem_cons.mpr ⟨xML_p7_14, List.forall_mem_cons.mpr ⟨xML_p7_15, List.forall_mem_cons.mpr ⟨xML_p7_16, List.forall_mem_cons.mpr ⟨xML_p7_17, List.forall_mem_cons.mpr ⟨xML_p7_18, List.forall_mem_cons.mpr ⟨xML_p7_19, List.forall_mem_cons.mpr ⟨xML_p7_20, List.forall_mem_cons.mpr ⟨xML_p7_21, List.forall_mem_cons.mpr ⟨xML_p7_22, List.forall_mem_cons.mpr ⟨xML_p7_23, List.forall_mem_cons.mpr ⟨xML_p7_24, List.forall_mem_cons.mpr ⟨xML_p7_25, List.forall_mem_cons.mpr ⟨xML_p7_26, List.forall_mem_cons.mpr ⟨xML_p7_27, List.forall_mem_cons.mpr ⟨xML_p7_28, List.forall_mem_cons.mpr ⟨xML_p7_29, List.forall_mem_cons.mpr ⟨xML_p7_30, List.forall_mem_cons.mpr ⟨xML_p7_31, List.forall_mem_cons.mpr ⟨xML_p7_32, List.forall_mem_cons.mpr ⟨xML_p7_33, List.forall_mem_cons.mpr ⟨xML_p7_34, List.forall_mem_cons.mpr ⟨xML_p7_35, List.forall_mem_cons.mpr ⟨xML_p7_36, List.forall_mem_cons.mpr ⟨xML_p7_37, List.forall_mem_cons.mpr ⟨xML_p7_38, List.forall_mem_cons.mpr ⟨xML_p7_39, fun _ h => absurd h List.not_mem_nil⟩⟩⟩⟩⟩⟩⟩⟩⟩⟩⟩⟩⟩⟩⟩⟩⟩⟩⟩⟩⟩⟩⟩⟩⟩⟩⟩⟩⟩⟩⟩⟩⟩⟩⟩⟩⟩⟩⟩⟩
set_option maxRecDepth 100000 in
theorem xML_p8_0 : xm_mq (23, 103, 1, 113, 1, 0) := ⟨_, _, xc_113, rfl, rfl, by decide, xh6 (i := 20) rfl rfl, xh6 (i := 21) rfl rfl, xh6 (i := 22) rfl rfl⟩
set_option maxRecDepth 100000 in
theorem xML_p8_1 : xm_mq (23, 106, 1, 114, 1, 0) := ⟨_, _, xc_114, rfl, rfl, by decide, xh6 (i := 37) rfl rfl, xh6 (i := 38) rfl rfl, xh6 (i := 39) rfl rfl⟩
set_option maxRecDepth 100000 in
theorem xML_p8_2 : xm_mq (23, 110, 1, 115, 2, 0) := ⟨_, _, xc_115, rfl, rfl, by decide, xh6 (i := 47) rfl rfl, xh6 (i := 48) rfl rfl, xh6 (i := 49) rfl rfl⟩
set_option maxRecDepth 100000 in
theorem xML_p8_3 : xm_mq (23, 113, 1, 117, 1, 0) := ⟨_, _, xc_117, rfl, rfl, by decide, xh6 (i := 54) rfl rfl, xh6 (i := 55) rfl rfl, xh6 (i := 56) rfl rfl⟩
set_option maxRecDepth 100000 in
theorem xML_p8_4 : xm_mq (23, 116, 1, 119, 2, 0) := ⟨_, _, xc_119, rfl, rfl, by decide, xh6 (i := 61) rfl rfl, xh6 (i := 62) rfl rfl, xh6 (i := 63) rfl rfl⟩
set_option maxRecDepth 100000 in
theorem xML_p8_5 : xm_mq (23, 120, 1, 121, 1, 0) := ⟨_, _, xc_121, rfl, rfl, by decide, xh6 (i := 73) rfl rfl, xh6 (i := 74) rfl rfl, xh6 (i := 75) rfl rfl⟩
set_option maxRecDepth 100000 in
theorem xML_p8_6 : xm_mq (23, 123, 1, 122, 1, 0) := ⟨_, _, xc_122, rfl, rfl, by decide, xh7 (i := 82) rfl rfl, xh7 (i := 83) rfl rfl, xh7 (i := 84) rfl rfl⟩
set_option maxRecDepth 100000 in
theorem xML_p8_7 : xm_mq (23, 127, 2, 72, 0, 0) := ⟨_, xc_72, rfl, rfl, rfl, xh1 (i := 34) rfl rfl, xh1 (i := 35) rfl rfl⟩
set_option maxRecDepth 100000 in
theorem xML_p8_8 : xm_mq (23, 130, 2, 131, 0, 11) := ⟨_, xc_131, rfl, rfl, rfl, xh7 (i := 99) rfl rfl, xh7 (i := 100) rfl rfl⟩
set_option maxRecDepth 100000 in
theorem xML_p8_9 : xm_mq (23, 131, 1, 73, 5, 0) := ⟨_, _, xc_73, rfl, rfl, by decide, xh2 (i := 230) rfl rfl, xh2 (i := 231) rfl rfl, xh2 (i := 232) rfl rfl⟩
set_option maxRecDepth 100000 in
theorem xML_p8_10 : xm_mq (23, 135, 1, 141, 5, 11) := ⟨_, _, xc_141, rfl, rfl, by decide, xh7 (i := 218) rfl rfl, xh7 (i := 219) rfl rfl, xh7 (i := 220) rfl rfl⟩
set_option maxRecDepth 100000 in
theorem xML_p8_11 : xm_mq (23, 136, 10, 327, 3, 0) := ⟨_, _, _, xc_327, rfl, xh3 (i := 65) rfl rfl, xh3 (i := 66) rfl rfl⟩
set_option maxRecDepth 100000 in
theorem xML_p8_12 : xm_mq (23, 141, 1, 164, 1, 11) := ⟨_, _, xc_164, rfl, rfl, by decide, xh7 (i := 226) rfl rfl, xh7 (i := 227) rfl rfl, xh7 (i := 228) rfl rfl⟩
set_option maxRecDepth 100000 in
theorem xML_p8_13 : xm_mq (23, 142, 1, 132, 0, 11) := ⟨_, _, xc_132, rfl, rfl, by decide, xh7 (i := 210) rfl rfl, xh7 (i := 211) rfl rfl, xh7 (i := 212) rfl rfl⟩
set_option maxRecDepth 100000 in
theorem xML_p8_14 : xm_mq (23, 146, 1, 75, 0, 0) := ⟨_, _, xc_75, rfl, rfl, by decide, xh2 (i := 238) rfl rfl, xh2 (i := 239) rfl rfl, xh3 (i := 0) rfl rfl⟩
set_option maxRecDepth 100000 in
theorem xML_p8_15 : xm_mq (23, 149, 1, 165, 0, 11) := ⟨_, _, xc_165, rfl, rfl, by decide, xh8 (i := 85) rfl rfl, xh8 (i := 86) rfl rfl, xh8 (i := 87) rfl rfl⟩
set_option maxRecDepth 100000 in
theorem xML_p8_16 : xm_mq (23, 150, 1, 76, 0, 0) := ⟨_, _, xc_76, rfl, rfl, by decide, xh3 (i := 2) rfl rfl, xh3 (i := 3) rfl rfl, xh3 (i := 4) rfl rfl⟩
set_option maxRecDepth 100000 in
theorem xML_p8_17 : xm_mq (23, 153, 1, 166, 0, 11) := ⟨_, _, xc_166, rfl, rfl, by decide, xh8 (i := 89) rfl rfl, xh8 (i := 90) rfl rfl, xh8 (i := 91) rfl rfl⟩
set_option maxRecDepth 100000 in
theorem xML_p8_18 : xm_mq (23, 154, 1, 77, 0, 0) := ⟨_, _, xc_77, rfl, rfl, by decide, xh3 (i := 6) rfl rfl, xh3 (i := 7) rfl rfl, xh3 (i := 8) rfl rfl⟩
set_option maxRecDepth 100000 in
theorem xML_p8_19 : xm_mq (23, 157, 1, 176, 0, 11) := ⟨_, _, xc_176, rfl, rfl, by decide, xh8 (i := 93) rfl rfl, xh8 (i := 94) rfl rfl, xh8 (i := 95) rfl rfl⟩
set_option maxRecDepth 100000 in
theorem xML_p8_20 : xm_mq (23, 158, 1, 78, 0, 0) := ⟨_, _, xc_78, rfl, rfl, by decide, xh3 (i := 10) rfl rfl, xh3 (i := 11) rfl rfl, xh3 (i := 12) rfl rfl⟩
set_option maxRecDepth 100000 in
theorem xML_p8_21 : xm_mq (23, 161, 1, 177, 0, 11) := ⟨_, _, xc_177, rfl, rfl, by decide, xh8 (i := 97) rfl rfl, xh8 (i := 98) rfl rfl, xh8 (i := 99) rfl rfl⟩
set_option maxRecDepth 100000 in
theorem xML_p8_22 : xm_mq (23, 162, 1, 79, 0, 0) := ⟨_, _, xc_79, rfl, rfl, by decide, xh3 (i := 14) rfl rfl, xh3 (i := 15) rfl rfl, xh3 (i := 16) rfl rfl⟩
set_option maxRecDepth 100000 in
theorem xML_p8_23 : xm_mq (23, 165, 1, 178, 0, 11) := ⟨_, _, xc_178, rfl, rfl, by decide, xh8 (i := 101) rfl rfl, xh8 (i := 102) rfl rfl, xh8 (i := 103) rfl rfl⟩
set_option maxRecDepth 100000 in
theorem xML_p8_24 : xm_mq (23, 166, 10, 328, 3, 0) := ⟨_, _, _, xc_328, rfl, xh4 (i := 126) rfl rfl, xh4 (i := 127) rfl rfl⟩
set_option maxRecDepth 100000 in
theorem xML_p8_25 : xm_mq (23, 168, 1, 179, 1, 11) := ⟨_, _, xc_179, rfl, rfl, by decide, xh8 (i := 105) rfl rfl, xh8 (i := 106) rfl rfl, xh8 (i := 107) rfl rfl⟩
set_option maxRecDepth 100000 in
theorem xML_p8_26 : xm_mq (23, 169, 10, 329, 3, 0) := ⟨_, _, _, xc_329, rfl, xh4 (i := 154) rfl rfl, xh4 (i := 155) rfl rfl⟩
set_option maxRecDepth 100000 in
theorem xML_p8_27 : xm_mq (23, 171, 1, 181, 1, 11) := ⟨_, _, xc_181, rfl, rfl, by decide, xh8 (i := 117) rfl rfl, xh8 (i := 118) rfl rfl, xh8 (i := 119) rfl rfl⟩
set_option maxRecDepth 100000 in
theorem xML_p8_28 : xm_mq (23, 172, 10, 330, 3, 0) := ⟨_, _, _, xc_330, rfl, xh4 (i := 166) rfl rfl, xh4 (i := 167) rfl rfl⟩
set_option maxRecDepth 100000 in
theorem xML_p8_29 : xm_mq (23, 174, 1, 182, 1, 11) := ⟨_, _, xc_182, rfl, rfl, by decide, xh8 (i := 133) rfl rfl, xh8 (i := 134) rfl rfl, xh8 (i := 135) rfl rfl⟩
set_option maxRecDepth 100000 in
theorem xML_p8_30 : xm_mq (23, 175, 10, 331, 3, 0) := ⟨_, _, _, xc_331, rfl, xh4 (i := 180) rfl rfl, xh4 (i := 181) rfl rfl⟩
set_option maxRecDepth 100000 in
theorem xML_p8_31 : xm_mq (23, 177, 1, 183, 1, 11) := ⟨_, _, xc_183, rfl, rfl, by decide, xh8 (i := 141) rfl rfl, xh8 (i := 142) rfl rfl, xh8 (i := 143) rfl rfl⟩
set_option maxRecDepth 100000 in
theorem xML_p8_32 : xm_mq (23, 178, 10, 332, 3, 0) := ⟨_, _, _, xc_332, rfl, xh4 (i := 187) rfl rfl, xh4 (i := 188) rfl rfl⟩
set_option maxRecDepth 100000 in
theorem xML_p8_33 : xm_mq (23, 180, 1, 184, 1, 11) := ⟨_, _, xc_184, rfl, rfl, by decide, xh8 (i := 145) rfl rfl, xh8 (i := 146) rfl rfl, xh8 (i := 147) rfl rfl⟩
set_option maxRecDepth 100000 in
theorem xML_p8_34 : xm_mq (23, 181, 10, 333, 3, 0) := ⟨_, _, _, xc_333, rfl, xh4 (i := 194) rfl rfl, xh4 (i := 195) rfl rfl⟩
set_option maxRecDepth 100000 in
theorem xML_p8_35 : xm_mq (23, 183, 1, 185, 1, 11) := ⟨_, _, xc_185, rfl, rfl, by decide, xh8 (i := 149) rfl rfl, xh8 (i := 150) rfl rfl, xh8 (i := 151) rfl rfl⟩
set_option maxRecDepth 100000 in
theorem xML_p8_36 : xm_mq (23, 184, 10, 334, 3, 0) := ⟨_, _, _, xc_334, rfl, xh4 (i := 201) rfl rfl, xh4 (i := 202) rfl rfl⟩
set_option maxRecDepth 100000 in
theorem xML_p8_37 : xm_mq (23, 186, 1, 186, 1, 11) := ⟨_, _, xc_186, rfl, rfl, by decide, xh8 (i := 153) rfl rfl, xh8 (i := 154) rfl rfl, xh8 (i := 155) rfl rfl⟩
set_option maxRecDepth 100000 in
theorem xML_p8_38 : xm_mq (23, 187, 10, 335, 3, 0) := ⟨_, _, _, xc_335, rfl, xh4 (i := 212) rfl rfl, xh4 (i := 213) rfl rfl⟩
set_option maxRecDepth 100000 in
theorem xML_p8_39 : xm_mq (23, 189, 1, 187, 1, 11) := ⟨_, _, xc_187, rfl, rfl, by decide, xh8 (i := 161) rfl rfl, xh8 (i := 162) rfl rfl, xh8 (i := 163) rfl rfl⟩
def xML_8 : List (Nat × Nat × Nat × Nat × Nat × Nat) := [(23, 103, 1, 113, 1, 0), (23, 106, 1, 114, 1, 0), (23, 110, 1, 115, 2, 0), (23, 113, 1, 117, 1, 0), (23, 116, 1, 119, 2, 0), (23, 120, 1, 121, 1, 0), (23, 123, 1, 122, 1, 0), (23, 127, 2, 72, 0, 0), (23, 130, 2, 131, 0, 11), (23, 131, 1, 73, 5, 0), (23, 135, 1, 141, 5, 11), (23, 136, 10, 327, 3, 0), (23, 141, 1, 164, 1, 11), (23, 142, 1, 132, 0, 11), (23, 146, 1, 75, 0, 0), (23, 149, 1, 165, 0, 11), (23, 150, 1, 76, 0, 0), (23, 153, 1, 166, 0, 11), (23, 154, 1, 77, 0, 0), (23, 157, 1, 176, 0, 11), (23, 158, 1, 78, 0, 0), (23, 161, 1, 177, 0, 11), (23, 162, 1, 79, 0, 0), (23, 165, 1, 178, 0, 11), (23, 166, 10, 328, 3, 0), (23, 168, 1, 179, 1, 11), (23, 169, 10, 329, 3, 0), (23, 171, 1, 181, 1, 11), (23, 172, 10, 330, 3, 0), (23, 174, 1, 182, 1, 11), (23, 175, 10, 331, 3, 0), (23, 177, 1, 183, 1, 11), (23, 178, 10, 332, 3, 0), (23, 180, 1, 184, 1, 11), (23, 181, 10, 333, 3, 0), (23, 183, 1, 185, 1, 11), (23, 184, 10, 334, 3, 0), (23, 186, 1, 186, 1, 11), (23, 187, 10, 335, 3, 0), (23, 189, 1, 187, 1, 11)]
theorem xML_ok8 : ∀ q ∈ xML_8, xm_mq q := List.forall_mem_cons.mpr ⟨xML_p8_0, List.forall_mem_cons.mpr ⟨xML_p8_1, List.forall_mem_cons.mpr ⟨xML_p8_2, List.forall_mem_cons.mpr ⟨xML_p8_3, List.forall_mem_cons.mpr ⟨xML_p8_4, List.forall_mem_cons.mpr ⟨xML_p8_5, List.forall_mem_cons.mpr ⟨xML_p8_6, List.forall_mem_cons.mpr ⟨xML_p8_7, List.forall_mem_cons.mpr ⟨xML_p8_8, List.forall_mem_cons.mpr ⟨xML_p8_9, List.forall_mem_cons.mpr ⟨xML_p8_10, List.forall_mem_cons.mpr ⟨xML_p8_11, List.forall_mem_cons.mpr ⟨xML_p8_12, List.forall_mem_cons.mpr ⟨xML_p8_13, List.forall_mem_cons.mpr ⟨xML_p8_14, List.forall_mem_cons.mpr ⟨xML_p8_15, List.forall_mem_cons.mpr ⟨xML_p8_16, List.forall_mem_cons.mpr ⟨xML_p8_17, List.forall_mem_cons.mpr ⟨xML_p8_18, List.forall_mem_cons.mpr ⟨xML_p8_19, List.forall_mem_cons.mpr ⟨xML_p8_20, List.forall_mem_cons.mpr ⟨xML_p8_21, List.forall_mem_cons.mpr ⟨xML_p8_22, List.forall_mem_cons.mpr ⟨xML_p8_23, List.forall_mem_cons.mpr ⟨xML_p8_24, List.forall_mem_cons.mpr ⟨xML_p8_25, List.forall_mem_cons.mpr ⟨xML_p8_26, List.forall_mem_cons.mpr ⟨xML_p8_27, List.forall_mem_cons.mpr ⟨xML_p8_28, List.forall_mem_cons.mpr ⟨xML_p8_29, List.forall_mem_cons.mpr ⟨xML_p8_30, List.forall_mem_cons.mpr ⟨xML_p8_31, List.forall_mem_cons.mpr ⟨xML_p8_32, List.forall_mem_cons.mpr ⟨xML_p8_33, List.forall_mem_cons.mpr ⟨xML_p8_34, List.forall_mem_cons.mpr ⟨xML_p8_35, List.forall_mem_cons.mpr ⟨xML_p8_36, List.forall_mem_cons.mpr ⟨xML_p8_37, List.forall_mem_cons.mpr ⟨xML_p8_38, List.forall_mem_cons.mpr ⟨xML_p8_39, fun _ h => absurd h List.not_mem_nil⟩⟩⟩⟩⟩⟩⟩⟩⟩⟩⟩⟩⟩⟩⟩⟩⟩⟩⟩⟩⟩⟩⟩⟩⟩⟩⟩⟩⟩⟩⟩⟩⟩⟩⟩⟩⟩⟩⟩⟩
set_option maxRecDepth 100000 in
theorem xML_p9_0 : xm_mq (23, 190, 1, 88, 0, 0) := ⟨_, _, xc_88, rfl, rfl, by decide, xh3 (i := 18) rfl rfl, xh3 (i := 19) rfl rfl, xh3 (i := 20) rfl rfl⟩
set_option maxRecDepth 100000 in
theorem xML_p9_1 : xm_mq (23, 193, 1, 188, 0, 11) := ⟨_, _, xc_188, rfl, rfl, by decide, xh8 (i := 165) rfl rfl, xh8 (i := 166) rfl rfl, xh8 (i := 167) rfl rfl⟩
set_option maxRecDepth 100000 in
theorem xML_p9_2 : xm_mq (23, 194, 10, 336, 5, 0) := ⟨_, _, _, xc_336, rfl, xh4 (i := 219) rfl rfl, xh4 (i := 220) rfl rfl⟩
set_option maxRecDepth 100000 in
theorem xML_p9_3 : xm_mq (23, 197, 1, 200, 3, 11) := ⟨_, _, xc_200, rfl, rfl, by decide, xh8 (i := 169) rfl rfl, xh8 (i := 170) rfl rfl, xh8 (i := 171) rfl rfl⟩
set_option maxRecDepth 100000 in
theorem xML_p9_4 : xm_mq (23, 198, 10, 337, 5, 0) := ⟨_, _, _, xc_337, rfl, xh5 (i := 2) rfl rfl, xh5 (i := 3) rfl rfl⟩
set_option maxRecDepth 100000 in
theorem xML_p9_5 : xm_mq (23, 200, 1, 201, 3, 11) := ⟨_, _, xc_201, rfl, rfl, by decide, xh8 (i := 197) rfl rfl, xh8 (i := 198) rfl rfl, xh8 (i := 199) rfl rfl⟩
set_option maxRecDepth 100000 in
theorem xML_p9_6 : xm_mq (23, 201, 10, 338, 5, 0) := ⟨_, _, _, xc_338, rfl, xh5 (i := 21) rfl rfl, xh5 (i := 22) rfl rfl⟩
set_option maxRecDepth 100000 in
theorem xML_p9_7 : xm_mq (23, 203, 1, 202, 3, 11) := ⟨_, _, xc_202, rfl, rfl, by decide, xh8 (i := 218) rfl rfl, xh8 (i := 219) rfl rfl, xh8 (i := 220) rfl rfl⟩
set_option maxRecDepth 100000 in
theorem xML_p9_8 : xm_mq (23, 204, 10, 339, 5, 0) := ⟨_, _, _, xc_339, rfl, xh5 (i := 43) rfl rfl, xh5 (i := 44) rfl rfl⟩
set_option maxRecDepth 100000 in
theorem xML_p9_9 : xm_mq (23, 206, 1, 203, 3, 11) := ⟨_, _, xc_203, rfl, rfl, by decide, xh8 (i := 222) rfl rfl, xh8 (i := 223) rfl rfl, xh8 (i := 224) rfl rfl⟩
set_option maxRecDepth 100000 in
theorem xML_p9_10 : xm_mq (23, 207, 10, 340, 6, 0) := ⟨_, _, _, xc_340, rfl, xh5 (i := 50) rfl rfl, xh5 (i := 51) rfl rfl⟩
set_option maxRecDepth 100000 in
theorem xML_p9_11 : xm_mq (23, 210, 1, 205, 4, 11) := ⟨_, _, xc_205, rfl, rfl, by decide, xh8 (i := 226) rfl rfl, xh8 (i := 227) rfl rfl, xh8 (i := 228) rfl rfl⟩
set_option maxRecDepth 100000 in
theorem xML_p9_12 : xm_mq (23, 211, 10, 341, 5, 0) := ⟨_, _, _, xc_341, rfl, xh5 (i := 70) rfl rfl, xh5 (i := 71) rfl rfl⟩
set_option maxRecDepth 100000 in
theorem xML_p9_13 : xm_mq (23, 213, 1, 207, 3, 11) := ⟨_, _, xc_207, rfl, rfl, by decide, xh9 (i := 2) rfl rfl, xh9 (i := 3) rfl rfl, xh9 (i := 4) rfl rfl⟩
set_option maxRecDepth 100000 in
theorem xML_p9_14 : xm_mq (23, 214, 10, 342, 5, 0) := ⟨_, _, _, xc_342, rfl, xh5 (i := 90) rfl rfl, xh5 (i := 91) rfl rfl⟩
set_option maxRecDepth 100000 in
theorem xML_p9_15 : xm_mq (23, 216, 1, 210, 3, 11) := ⟨_, _, xc_210, rfl, rfl, by decide, xh9 (i := 10) rfl rfl, xh9 (i := 11) rfl rfl, xh9 (i := 12) rfl rfl⟩
set_option maxRecDepth 100000 in
theorem xML_p9_16 : xm_mq (23, 217, 10, 343, 6, 0) := ⟨_, _, _, xc_343, rfl, xh5 (i := 120) rfl rfl, xh5 (i := 121) rfl rfl⟩
set_option maxRecDepth 100000 in
theorem xML_p9_17 : xm_mq (23, 219, 1, 211, 4, 11) := ⟨_, _, xc_211, rfl, rfl, by decide, xh9 (i := 39) rfl rfl, xh9 (i := 40) rfl rfl, xh9 (i := 41) rfl rfl⟩
set_option maxRecDepth 100000 in
theorem xML_p9_18 : xm_mq (23, 220, 10, 344, 6, 0) := ⟨_, _, _, xc_344, rfl, xh5 (i := 127) rfl rfl, xh5 (i := 128) rfl rfl⟩
set_option maxRecDepth 100000 in
theorem xML_p9_19 : xm_mq (23, 222, 1, 213, 4, 11) := ⟨_, _, xc_213, rfl, rfl, by decide, xh9 (i := 43) rfl rfl, xh9 (i := 44) rfl rfl, xh9 (i := 45) rfl rfl⟩
set_option maxRecDepth 100000 in
theorem xML_p9_20 : xm_mq (23, 223, 10, 345, 5, 0) := ⟨_, _, _, xc_345, rfl, xh5 (i := 142) rfl rfl, xh5 (i := 143) rfl rfl⟩
set_option maxRecDepth 100000 in
theorem xML_p9_21 : xm_mq (23, 225, 1, 214, 3, 11) := ⟨_, _, xc_214, rfl, rfl, by decide, xh9 (i := 51) rfl rfl, xh9 (i := 52) rfl rfl, xh9 (i := 53) rfl rfl⟩
set_option maxRecDepth 100000 in
theorem xML_p9_22 : xm_mq (23, 226, 10, 346, 3, 0) := ⟨_, _, _, xc_346, rfl, xh5 (i := 171) rfl rfl, xh5 (i := 172) rfl rfl⟩
set_option maxRecDepth 100000 in
theorem xML_p9_23 : xm_mq (23, 228, 1, 215, 1, 11) := ⟨_, _, xc_215, rfl, rfl, by decide, xh9 (i := 64) rfl rfl, xh9 (i := 65) rfl rfl, xh9 (i := 66) rfl rfl⟩
set_option maxRecDepth 100000 in
theorem xML_p9_24 : xm_mq (23, 229, 10, 347, 4, 0) := ⟨_, _, _, xc_347, rfl, xh5 (i := 179) rfl rfl, xh5 (i := 180) rfl rfl⟩
set_option maxRecDepth 100000 in
theorem xML_p9_25 : xm_mq (23, 232, 1, 221, 2, 11) := ⟨_, _, xc_221, rfl, rfl, by decide, xh9 (i := 70) rfl rfl, xh9 (i := 71) rfl rfl, xh9 (i := 72) rfl rfl⟩
set_option maxRecDepth 100000 in
theorem xML_p9_26 : xm_mq (23, 233, 10, 348, 3, 0) := ⟨_, _, _, xc_348, rfl, xh5 (i := 199) rfl rfl, xh5 (i := 200) rfl rfl⟩
set_option maxRecDepth 100000 in
theorem xML_p9_27 : xm_mq (23, 235, 1, 223, 1, 11) := ⟨_, _, xc_223, rfl, rfl, by decide, xh9 (i := 90) rfl rfl, xh9 (i := 91) rfl rfl, xh9 (i := 92) rfl rfl⟩
set_option maxRecDepth 100000 in
theorem xML_p9_28 : xm_mq (23, 236, 10, 349, 3, 0) := ⟨_, _, _, xc_349, rfl, xh5 (i := 208) rfl rfl, xh5 (i := 209) rfl rfl⟩
set_option maxRecDepth 100000 in
theorem xML_p9_29 : xm_mq (23, 238, 1, 224, 1, 11) := ⟨_, _, xc_224, rfl, rfl, by decide, xh9 (i := 98) rfl rfl, xh9 (i := 99) rfl rfl, xh9 (i := 100) rfl rfl⟩
set_option maxRecDepth 100000 in
theorem xML_p9_30 : xm_mq (23, 239, 10, 350, 4, 0) := ⟨_, _, _, xc_350, rfl, xh5 (i := 216) rfl rfl, xh5 (i := 217) rfl rfl⟩
set_option maxRecDepth 100000 in
theorem xML_p9_31 : xm_mq (23, 241, 1, 225, 2, 11) := ⟨_, _, xc_225, rfl, rfl, by decide, xh9 (i := 102) rfl rfl, xh9 (i := 103) rfl rfl, xh9 (i := 104) rfl rfl⟩
set_option maxRecDepth 100000 in
theorem xML_p9_32 : xm_mq (23, 242, 10, 351, 4, 0) := ⟨_, _, _, xc_351, rfl, xh5 (i := 223) rfl rfl, xh5 (i := 224) rfl rfl⟩
set_option maxRecDepth 100000 in
theorem xML_p9_33 : xm_mq (23, 244, 1, 226, 2, 11) := ⟨_, _, xc_226, rfl, rfl, by decide, xh9 (i := 107) rfl rfl, xh9 (i := 108) rfl rfl, xh9 (i := 109) rfl rfl⟩
set_option maxRecDepth 100000 in
theorem xML_p9_34 : xm_mq (23, 245, 10, 352, 4, 0) := ⟨_, _, _, xc_352, rfl, xh5 (i := 231) rfl rfl, xh5 (i := 232) rfl rfl⟩
set_option maxRecDepth 100000 in
theorem xML_p9_35 : xm_mq (23, 247, 1, 227, 2, 11) := ⟨_, _, xc_227, rfl, rfl, by decide, xh9 (i := 111) rfl rfl, xh9 (i := 112) rfl rfl, xh9 (i := 113) rfl rfl⟩
set_option maxRecDepth 100000 in
theorem xML_p9_36 : xm_mq (23, 248, 10, 353, 4, 0) := ⟨_, _, _, xc_353, rfl, xh5 (i := 238) rfl rfl, xh5 (i := 239) rfl rfl⟩
set_option maxRecDepth 100000 in
theorem xML_p9_37 : xm_mq (23, 250, 1, 228, 2, 11) := ⟨_, _, xc_228, rfl, rfl, by decide, xh9 (i := 116) rfl rfl, xh9 (i := 117) rfl rfl, xh9 (i := 118) rfl rfl⟩
set_option maxRecDepth 100000 in
theorem xML_p9_38 : xm_mq (23, 251, 1, 109, 0, 0) := ⟨_, _, xc_109, rfl, rfl, by decide, xh3 (i := 22) rfl rfl, xh3 (i := 23) rfl rfl, xh3 (i := 24) rfl rfl⟩
set_option maxRecDepth 100000 in
theorem xML_p9_39 : xm_mq (23, 254, 1, 139, 0, 11) := ⟨_, _, xc_139, rfl, rfl, by decide, xh7 (i := 214) rfl rfl, xh7 (i := 215) rfl rfl, xh7 (i := 216) rfl rfl⟩
def xML_9 : List (Nat × Nat × Nat × Nat × Nat × Nat) := [(23, 190, 1, 88, 0, 0), (23, 193, 1, 188, 0, 11), (23, 194, 10, 336, 5, 0), (23, 197, 1, 200, 3, 11), (23, 198, 10, 337, 5, 0), (23, 200, 1, 201, 3, 11), (23, 201, 10, 338, 5, 0), (23, 203, 1, 202, 3, 11), (23, 204, 10, 339, 5, 0), (23, 206, 1, 203, 3, 11), (23, 207, 10, 340, 6, 0), (23, 210, 1, 205, 4, 11), (23, 211, 10, 341, 5, 0), (23, 213, 1, 207, 3, 11), (23, 214, 10, 342, 5, 0), (23, 216, 1, 210, 3, 11), (23, 217, 10, 343, 6, 0), (23, 219, 1, 211, 4, 11), (23, 220, 10, 344, 6, 0), (23, 222, 1, 213, 4, 11), (23, 223, 10, 345, 5, 0), (23, 225, 1, 214, 3, 11), (23, 226, 10, 346, 3, 0), (23, 228, 1, 215, 1, 11), (23, 229, 10, 347, 4, 0), (23, 232, 1, 221, 2, 11), (23, 233, 10, 348, 3, 0), (23, 235, 1, 223, 1, 11), (23, 236, 10, 349, 3, 0), (23, 238, 1, 224, 1, 11), (23, 239, 10, 350, 4, 0), (23, 241, 1, 225, 2, 11), (23, 242, 10, 351, 4, 0), (23, 244, 1, 226, 2, 11), (23, 245, 10, 352, 4, 0), (23, 247, 1, 227, 2, 11), (23, 248, 10, 353, 4, 0), (23, 250, 1, 228, 2, 11), (23, 251, 1, 109, 0, 0), (23, 254, 1, 139, 0, 11)]
theorem xML_ok9 : ∀ q ∈ xML_9, xm_mq q := List.forall_mem_cons.mpr ⟨xML_p9_0, List.forall_mem_cons.mpr ⟨xML_p9_1, List.forall_mem_cons.mpr ⟨xML_p9_2, List.forall_mem_cons.mpr ⟨xML_p9_3, List.forall_mem_cons.mpr ⟨xML_p9_4, List.forall_mem_cons.mpr ⟨xML_p9_5, List.forall_mem_cons.mpr ⟨xML_p9_6, List.forall_mem_cons.mpr ⟨xML_p9_7, List.forall_mem_cons.mpr ⟨xML_p9_8, List.forall_mem_cons.mpr ⟨xML_p9_9, List.forall_mem_cons.mpr ⟨xML_p9_10, List.forall_mem_cons.mpr ⟨xML_p9_11, List.forall_mem_cons.mpr ⟨xML_p9_12, List.forall_mem_cons.mpr ⟨xML_p9_13, List.forall_mem_cons.mpr ⟨xML_p9_14, List.forall_mem_cons.mpr ⟨xML_p9_15, List.forall_mem_cons.mpr ⟨xML_p9_16, List.forall_mem_cons.mpr ⟨xML_p9_17, List.forall_mem_cons.mpr ⟨xML_p9_18, List.forall_mem_cons.mpr ⟨xML_p9_19, List.forall_mem_cons.mpr ⟨xML_p9_20, List.forall_mem_cons.mpr ⟨xML_p9_21, List.forall_mem_cons.mpr ⟨xML_p9_22, List.forall_mem_cons.mpr ⟨xML_p9_23, List.forall_mem_cons.mpr ⟨xML_p9_24, List.forall_mem_cons.mpr ⟨xML_p9_25, List.forall_mem_cons.mpr ⟨xML_p9_26, List.forall_mem_cons.mpr ⟨xML_p9_27, List.forall_mem_cons.mpr ⟨xML_p9_28, List.forall_mem_cons.mpr ⟨xML_p9_29, List.forall_mem_cons.mpr ⟨xML_p9_30, List.forall_mem_cons.mpr ⟨xML_p9_31, List.forall_mem_cons.mpr ⟨xML_p9_32, List.forall_mem_cons.mpr ⟨xML_p9_33, List.forall_mem_cons.mpr ⟨xML_p9_34, List.forall_mem_cons.mpr ⟨xML_p9_35, List.forall_mem_cons.mpr ⟨xML_p9_36, List.forall_mem_cons.mpr ⟨xML_p9_37, List.forall_mem_cons.mpr ⟨xML_p9_38, List.forall_mem_cons.mpr ⟨xML_p9_39, fun _ h => absurd h List.not_mem_nil⟩⟩⟩⟩⟩⟩⟩⟩⟩⟩⟩⟩⟩⟩⟩⟩⟩⟩⟩⟩⟩⟩⟩⟩⟩⟩⟩⟩⟩⟩⟩⟩⟩⟩⟩⟩⟩⟩⟩⟩
set_option maxRecDepth 100000 in
theorem xML_p10_0 : xm_mq (23, 255, 1, 110, 0, 0) := ⟨_, _, xc_110, rfl, rfl, by decide, xh3 (i := 37) rfl rfl, xh3 (i := 38) rfl rfl, xh3 (i := 39) rfl rfl⟩
set_option maxRecDepth 100000 in
theorem xML_p10_1 : xm_mq (23, 258, 1, 229, 0, 11) := ⟨_, _, xc_229, rfl, rfl, by decide, xh9 (i := 120) rfl rfl, xh9 (i := 121) rfl rfl, xh9 (i := 122) rfl rfl⟩
set_option maxRecDepth 100000 in
theorem xML_p10_2 : xm_mq (23, 259, 10, 354, 4, 0) := ⟨_, _, _, xc_354, rfl, xh6 (i := 5) rfl rfl, xh6 (i := 6) rfl rfl⟩
set_option maxRecDepth 100000 in
theorem xML_p10_3 : xm_mq (23, 261, 1, 230, 2, 11) := ⟨_, _, xc_230, rfl, rfl, by decide, xh9 (i := 124) rfl rfl, xh9 (i := 125) rfl rfl, xh9 (i := 126) rfl rfl⟩
set_option maxRecDepth 100000 in
theorem xML_p10_4 : xm_mq (23, 262, 1, 112, 0, 0) := ⟨_, _, xc_112, rfl, rfl, by decide, xh3 (i := 41) rfl rfl, xh3 (i := 42) rfl rfl, xh3 (i := 43) rfl rfl⟩
set_option maxRecDepth 100000 in
theorem xML_p10_5 : xm_mq (23, 265, 1, 231, 0, 11) := ⟨_, _, xc_231, rfl, rfl, by decide, xh9 (i := 129) rfl rfl, xh9 (i := 130) rfl rfl, xh9 (i := 131) rfl rfl⟩
set_option maxRecDepth 100000 in
theorem xML_p10_6 : xm_mq (23, 266, 10, 355, 3, 0) := ⟨_, _, _, xc_355, rfl, xh6 (i := 17) rfl rfl, xh6 (i := 18) rfl rfl⟩
set_option maxRecDepth 100000 in
theorem xML_p10_7 : xm_mq (23, 268, 1, 233, 1, 11) := ⟨_, _, xc_233, rfl, rfl, by decide, xh9 (i := 133) rfl rfl, xh9 (i := 134) rfl rfl, xh9 (i := 135) rfl rfl⟩
set_option maxRecDepth 100000 in
theorem xML_p10_8 : xm_mq (23, 269, 10, 356, 3, 0) := ⟨_, _, _, xc_356, rfl, xh6 (i := 34) rfl rfl, xh6 (i := 35) rfl rfl⟩
set_option maxRecDepth 100000 in
theorem xML_p10_9 : xm_mq (23, 272, 1, 234, 1, 11) := ⟨_, _, xc_234, rfl, rfl, by decide, xh9 (i := 141) rfl rfl, xh9 (i := 142) rfl rfl, xh9 (i := 143) rfl rfl⟩
set_option maxRecDepth 100000 in
theorem xML_p10_10 : xm_mq (23, 273, 10, 357, 4, 0) := ⟨_, _, _, xc_357, rfl, xh6 (i := 44) rfl rfl, xh6 (i := 45) rfl rfl⟩
set_option maxRecDepth 100000 in
theorem xML_p10_11 : xm_mq (23, 275, 1, 235, 2, 11) := ⟨_, _, xc_235, rfl, rfl, by decide, xh9 (i := 145) rfl rfl, xh9 (i := 146) rfl rfl, xh9 (i := 147) rfl rfl⟩
set_option maxRecDepth 100000 in
theorem xML_p10_12 : xm_mq (23, 276, 1, 116, 0, 0) := ⟨_, _, xc_116, rfl, rfl, by decide, xh3 (i := 49) rfl rfl, xh3 (i := 50) rfl rfl, xh3 (i := 51) rfl rfl⟩
set_option maxRecDepth 100000 in
theorem xML_p10_13 : xm_mq (23, 279, 1, 237, 0, 11) := ⟨_, _, xc_237, rfl, rfl, by decide, xh9 (i := 149) rfl rfl, xh9 (i := 150) rfl rfl, xh9 (i := 151) rfl rfl⟩
set_option maxRecDepth 100000 in
theorem xML_p10_14 : xm_mq (23, 280, 10, 358, 3, 0) := ⟨_, _, _, xc_358, rfl, xh6 (i := 51) rfl rfl, xh6 (i := 52) rfl rfl⟩
set_option maxRecDepth 100000 in
theorem xML_p10_15 : xm_mq (23, 282, 1, 238, 1, 11) := ⟨_, _, xc_238, rfl, rfl, by decide, xh9 (i := 157) rfl rfl, xh9 (i := 158) rfl rfl, xh9 (i := 159) rfl rfl⟩
set_option maxRecDepth 100000 in
theorem xML_p10_16 : xm_mq (23, 283, 1, 118, 0, 0) := ⟨_, _, xc_118, rfl, rfl, by decide, xh3 (i := 57) rfl rfl, xh3 (i := 58) rfl rfl, xh3 (i := 59) rfl rfl⟩
set_option maxRecDepth 100000 in
theorem xML_p10_17 : xm_mq (23, 286, 1, 239, 0, 11) := ⟨_, _, xc_239, rfl, rfl, by decide, xh9 (i := 161) rfl rfl, xh9 (i := 162) rfl rfl, xh9 (i := 163) rfl rfl⟩
set_option maxRecDepth 100000 in
theorem xML_p10_18 : xm_mq (23, 287, 10, 359, 4, 0) := ⟨_, _, _, xc_359, rfl, xh6 (i := 58) rfl rfl, xh6 (i := 59) rfl rfl⟩
set_option maxRecDepth 100000 in
theorem xML_p10_19 : xm_mq (23, 290, 1, 242, 2, 11) := ⟨_, _, xc_242, rfl, rfl, by decide, xh9 (i := 165) rfl rfl, xh9 (i := 166) rfl rfl, xh9 (i := 167) rfl rfl⟩
set_option maxRecDepth 100000 in
theorem xML_p10_20 : xm_mq (23, 291, 1, 120, 0, 0) := ⟨_, _, xc_120, rfl, rfl, by decide, xh3 (i := 61) rfl rfl, xh3 (i := 62) rfl rfl, xh3 (i := 63) rfl rfl⟩
set_option maxRecDepth 100000 in
theorem xML_p10_21 : xm_mq (23, 294, 1, 243, 0, 11) := ⟨_, _, xc_243, rfl, rfl, by decide, xh9 (i := 181) rfl rfl, xh9 (i := 182) rfl rfl, xh9 (i := 183) rfl rfl⟩
set_option maxRecDepth 100000 in
theorem xML_p10_22 : xm_mq (23, 295, 10, 360, 3, 0) := ⟨_, _, _, xc_360, rfl, xh6 (i := 70) rfl rfl, xh6 (i := 71) rfl rfl⟩
set_option maxRecDepth 100000 in
theorem xML_p10_23 : xm_mq (23, 297, 1, 249, 1, 11) := ⟨_, _, xc_249, rfl, rfl, by decide, xh9 (i := 185) rfl rfl, xh9 (i := 186) rfl rfl, xh9 (i := 187) rfl rfl⟩
set_option maxRecDepth 100000 in
theorem xML_p10_24 : xm_mq (23, 298, 10, 361, 3, 0) := ⟨_, _, _, xc_361, rfl, xh7 (i := 79) rfl rfl, xh7 (i := 80) rfl rfl⟩
set_option maxRecDepth 100000 in
theorem xML_p10_25 : xm_mq (23, 300, 1, 250, 1, 11) := ⟨_, _, xc_250, rfl, rfl, by decide, xh9 (i := 213) rfl rfl, xh9 (i := 214) rfl rfl, xh9 (i := 215) rfl rfl⟩
def xML_10 : List (Nat × Nat × Nat × Nat × Nat × Nat) := [(23, 255, 1, 110, 0, 0), (23, 258, 1, 229, 0, 11), (23, 259, 10, 354, 4, 0), (23, 261, 1, 230, 2, 11), (23, 262, 1, 112, 0, 0), (23, 265, 1, 231, 0, 11), (23, 266, 10, 355, 3, 0), (23, 268, 1, 233, 1, 11), (23, 269, 10, 356, 3, 0), (23, 272, 1, 234, 1, 11), (23, 273, 10, 357, 4, 0), (23, 275, 1, 235, 2, 11), (23, 276, 1, 116, 0, 0), (23, 279, 1, 237, 0, 11), (23, 280, 10, 358, 3, 0), (23, 282, 1, 238, 1, 11), (23, 283, 1, 118, 0, 0), (23, 286, 1, 239, 0, 11), (23, 287, 10, 359, 4, 0), (23, 290, 1, 242, 2, 11), (23, 291, 1, 120, 0, 0), (23, 294, 1, 243, 0, 11), (23, 295, 10, 360, 3, 0), (23, 297, 1, 249, 1, 11), (23, 298, 10, 361, 3, 0), (23, 300, 1, 250, 1, 11)]
theorem xML_ok10 : ∀ q ∈ xML_10, xm_mq q := List.forall_mem_cons.mpr ⟨xML_p10_0, List.forall_mem_cons.mpr ⟨xML_p10_1, List.forall_mem_cons.mpr ⟨xML_p10_2, List.forall_mem_cons.mpr ⟨xML_p10_3, List.forall_mem_cons.mpr ⟨xML_p10_4, List.forall_mem_cons.mpr ⟨xML_p10_5, List.forall_mem_cons.mpr ⟨xML_p10_6, List.forall_mem_cons.mpr ⟨xML_p10_7, List.forall_mem_cons.mpr ⟨xML_p10_8, List.forall_mem_cons.mpr ⟨xML_p10_9, List.forall_mem_cons.mpr ⟨xML_p10_10, List.forall_mem_cons.mpr ⟨xML_p10_11, List.forall_mem_cons.mpr ⟨xML_p10_12, List.forall_mem_cons.mpr ⟨xML_p10_13, List.forall_mem_cons.mpr ⟨xML_p10_14, List.forall_mem_cons.mpr ⟨xML_p10_15, List.forall_mem_cons.mpr ⟨xML_p10_16, List.forall_mem_cons.mpr ⟨xML_p10_17, List.forall_mem_cons.mpr ⟨xML_p10_18, List.forall_mem_cons.mpr ⟨xML_p10_19, List.forall_mem_cons.mpr ⟨xML_p10_20, List.forall_mem_cons.mpr ⟨xML_p10_21, List.forall_mem_cons.mpr ⟨xML_p10_22, List.forall_mem_cons.mpr ⟨xML_p10_23, List.forall_mem_cons.mpr ⟨xML_p10_24, List.forall_mem_cons.mpr ⟨xML_p10_25, fun _ h => absurd h List.not_mem_nil⟩⟩⟩⟩⟩⟩⟩⟩⟩⟩⟩⟩⟩⟩⟩⟩⟩⟩⟩⟩⟩⟩⟩⟩⟩⟩
def xML : List (Nat × Nat × Nat × Nat × Nat × Nat) := xML_0 ++ (xML_1 ++ (xML_2 ++ (xML_3 ++ (xML_4 ++ (xML_5 ++ (xML_6 ++ (xML_7 ++ (xML_8 ++ (xML_9 ++ (xML_10))))))))))
theorem xML_ok : ∀ q ∈ xML, xm_mq q := List.forall_mem_append.mpr ⟨xML_ok0, List.forall_mem_append.mpr ⟨xML_ok1, List.forall_mem_append.mpr ⟨xML_ok2, List.forall_mem_append.mpr ⟨xML_ok3, List.forall_mem_append.mpr ⟨xML_ok4, List.forall_mem_append.mpr ⟨xML_ok5, List.forall_mem_append.mpr ⟨xML_ok6, List.forall_mem_append.mpr ⟨xML_ok7, List.forall_mem_append.mpr ⟨xML_ok8, List.forall_mem_append.mpr ⟨xML_ok9, xML_ok10⟩⟩⟩⟩⟩⟩⟩⟩⟩⟩
