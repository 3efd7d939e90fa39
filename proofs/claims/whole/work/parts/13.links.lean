/-! printed by wip/gen/gen13.py: the links of the method tables, by numbers, with their words -/
abbrev xon : List String := ["AdMarketplace$Campaign", "AdMarketplace$Conversions", "AdMarketplace$Exchange", "AdMarketplace$History", "AdMarketplace$Impressions", "AdMarketplace$Parser", "AdMarketplace$Rules", "AdMarketplace$Standing", "AdMarketplace$Tag", "AdMarketplace$Tokens", "AdMarketplace", "AdMarketplaceModel", "java/lang/AbstractStringBuilder", "java/lang/ArrayIndexOutOfBoundsException", "java/lang/Integer", "java/lang/Math", "java/lang/String", "java/lang/StringBuilder", "java/lang/StringIndexOutOfBoundsException", "java/lang/StringLatin1", "java/lang/StringUTF16", "java/util/Arrays", "jdk/internal/util/ArraysSupport", "jdk/internal/util/Preconditions", "AdMarketplaceLaw"]
/-- class, entry, class number, field, sort -/
def xm_fq (q : Nat × Nat × Nat × Nat × Nat) : Prop := xm_fok (xon.getD q.1 "") q.2.1 q.2.2.1 q.2.2.2.1 q.2.2.2.2
set_option maxRecDepth 100000 in
theorem xFL_p0_0 : xm_fq (0, 9, 1, 0, 6) := ⟨_, _, rfl, by decide, by decide, rfl, rfl, xg_of (i := 112) rfl rfl⟩
set_option maxRecDepth 100000 in
theorem xFL_p0_1 : xm_fq (1, 9, 2, 0, 6) := ⟨_, _, rfl, by decide, by decide, rfl, rfl, xg_of (i := 380) rfl rfl⟩
set_option maxRecDepth 100000 in
theorem xFL_p0_2 : xm_fq (1, 15, 2, 1, 6) := ⟨_, _, rfl, by decide, by decide, rfl, rfl, xg_of (i := 382) rfl rfl⟩
set_option maxRecDepth 100000 in
theorem xFL_p0_3 : xm_fq (1, 18, 2, 2, 6) := ⟨_, _, rfl, by decide, by decide, rfl, rfl, xg_of (i := 383) rfl rfl⟩
set_option maxRecDepth 100000 in
theorem xFL_p0_4 : xm_fq (1, 21, 2, 3, 6) := ⟨_, _, rfl, by decide, by decide, rfl, rfl, xg_of (i := 385) rfl rfl⟩
set_option maxRecDepth 100000 in
theorem xFL_p0_5 : xm_fq (1, 24, 2, 4, 6) := ⟨_, _, rfl, by decide, by decide, rfl, rfl, xg_of (i := 387) rfl rfl⟩
set_option maxRecDepth 100000 in
theorem xFL_p0_6 : xm_fq (2, 12, 3, 0, 6) := ⟨_, _, rfl, by decide, by decide, rfl, rfl, xg_of (i := 332) rfl rfl⟩
set_option maxRecDepth 100000 in
theorem xFL_p0_7 : xm_fq (2, 21, 3, 1, 6) := ⟨_, _, rfl, by decide, by decide, rfl, rfl, xg_of (i := 334) rfl rfl⟩
set_option maxRecDepth 100000 in
theorem xFL_p0_8 : xm_fq (2, 32, 3, 2, 6) := ⟨_, _, rfl, by decide, by decide, rfl, rfl, xg_of (i := 336) rfl rfl⟩
set_option maxRecDepth 100000 in
theorem xFL_p0_9 : xm_fq (2, 36, 3, 3, 6) := ⟨_, _, rfl, by decide, by decide, rfl, rfl, xg_of (i := 338) rfl rfl⟩
set_option maxRecDepth 100000 in
theorem xFL_p0_10 : xm_fq (2, 40, 3, 4, 6) := ⟨_, _, rfl, by decide, by decide, rfl, rfl, xg_of (i := 340) rfl rfl⟩
set_option maxRecDepth 100000 in
theorem xFL_p0_11 : xm_fq (2, 43, 3, 5, 6) := ⟨_, _, rfl, by decide, by decide, rfl, rfl, xg_of (i := 341) rfl rfl⟩
set_option maxRecDepth 100000 in
theorem xFL_p0_12 : xm_fq (2, 46, 3, 7, 6) := ⟨_, _, rfl, by decide, by decide, rfl, rfl, xg_of (i := 345) rfl rfl⟩
set_option maxRecDepth 100000 in
theorem xFL_p0_13 : xm_fq (2, 49, 3, 8, 6) := ⟨_, _, rfl, by decide, by decide, rfl, rfl, xg_of (i := 347) rfl rfl⟩
set_option maxRecDepth 100000 in
theorem xFL_p0_14 : xm_fq (2, 52, 8, 5, 6) := ⟨_, _, rfl, by decide, by decide, rfl, rfl, xg_of (i := 251) rfl rfl⟩
set_option maxRecDepth 100000 in
theorem xFL_p0_15 : xm_fq (2, 55, 8, 9, 6) := ⟨_, _, rfl, by decide, by decide, rfl, rfl, xg_of (i := 263) rfl rfl⟩
set_option maxRecDepth 100000 in
theorem xFL_p0_16 : xm_fq (2, 62, 7, 0, 0) := ⟨_, _, rfl, by decide, by decide, rfl, rfl, xg_of (i := 152) rfl rfl⟩
set_option maxRecDepth 100000 in
theorem xFL_p0_17 : xm_fq (2, 66, 8, 6, 6) := ⟨_, _, rfl, by decide, by decide, rfl, rfl, xg_of (i := 254) rfl rfl⟩
set_option maxRecDepth 100000 in
theorem xFL_p0_18 : xm_fq (2, 69, 8, 1, 0) := ⟨_, _, rfl, by decide, by decide, rfl, rfl, xg_of (i := 241) rfl rfl⟩
set_option maxRecDepth 100000 in
theorem xFL_p0_19 : xm_fq (2, 72, 8, 8, 6) := ⟨_, _, rfl, by decide, by decide, rfl, rfl, xg_of (i := 260) rfl rfl⟩
set_option maxRecDepth 100000 in
theorem xFL_p0_20 : xm_fq (2, 75, 7, 7, 0) := ⟨_, _, rfl, by decide, by decide, rfl, rfl, xg_of (i := 177) rfl rfl⟩
set_option maxRecDepth 100000 in
theorem xFL_p0_21 : xm_fq (2, 78, 8, 7, 6) := ⟨_, _, rfl, by decide, by decide, rfl, rfl, xg_of (i := 257) rfl rfl⟩
set_option maxRecDepth 100000 in
theorem xFL_p0_22 : xm_fq (2, 85, 8, 0, 0) := ⟨_, _, rfl, by decide, by decide, rfl, rfl, xg_of (i := 238) rfl rfl⟩
set_option maxRecDepth 100000 in
theorem xFL_p0_23 : xm_fq (2, 103, 8, 2, 0) := ⟨_, _, rfl, by decide, by decide, rfl, rfl, xg_of (i := 243) rfl rfl⟩
set_option maxRecDepth 100000 in
theorem xFL_p0_24 : xm_fq (2, 106, 5, 2, 6) := ⟨_, _, rfl, by decide, by decide, rfl, rfl, xg_of (i := 313) rfl rfl⟩
set_option maxRecDepth 100000 in
theorem xFL_p0_25 : xm_fq (2, 109, 5, 1, 6) := ⟨_, _, rfl, by decide, by decide, rfl, rfl, xg_of (i := 310) rfl rfl⟩
set_option maxRecDepth 100000 in
theorem xFL_p0_26 : xm_fq (2, 112, 5, 0, 6) := ⟨_, _, rfl, by decide, by decide, rfl, rfl, xg_of (i := 307) rfl rfl⟩
set_option maxRecDepth 100000 in
theorem xFL_p0_27 : xm_fq (2, 115, 7, 6, 6) := ⟨_, _, rfl, by decide, by decide, rfl, rfl, xg_of (i := 172) rfl rfl⟩
set_option maxRecDepth 100000 in
theorem xFL_p0_28 : xm_fq (2, 118, 1, 4, 0) := ⟨_, _, rfl, by decide, by decide, rfl, rfl, xg_of (i := 122) rfl rfl⟩
set_option maxRecDepth 100000 in
theorem xFL_p0_29 : xm_fq (2, 123, 8, 10, 6) := ⟨_, _, rfl, by decide, by decide, rfl, rfl, xg_of (i := 266) rfl rfl⟩
set_option maxRecDepth 100000 in
theorem xFL_p0_30 : xm_fq (2, 127, 1, 5, 0) := ⟨_, _, rfl, by decide, by decide, rfl, rfl, xg_of (i := 124) rfl rfl⟩
set_option maxRecDepth 100000 in
theorem xFL_p0_31 : xm_fq (2, 133, 1, 3, 0) := ⟨_, _, rfl, by decide, by decide, rfl, rfl, xg_of (i := 120) rfl rfl⟩
set_option maxRecDepth 100000 in
theorem xFL_p0_32 : xm_fq (2, 139, 3, 6, 0) := ⟨_, _, rfl, by decide, by decide, rfl, rfl, xg_of (i := 343) rfl rfl⟩
set_option maxRecDepth 100000 in
theorem xFL_p0_33 : xm_fq (2, 152, 3, 9, 0) := ⟨_, _, rfl, by decide, by decide, rfl, rfl, xg_of (i := 349) rfl rfl⟩
set_option maxRecDepth 100000 in
theorem xFL_p0_34 : xm_fq (2, 155, 1, 7, 0) := ⟨_, _, rfl, by decide, by decide, rfl, rfl, xg_of (i := 128) rfl rfl⟩
set_option maxRecDepth 100000 in
theorem xFL_p0_35 : xm_fq (2, 161, 7, 2, 6) := ⟨_, _, rfl, by decide, by decide, rfl, rfl, xg_of (i := 158) rfl rfl⟩
set_option maxRecDepth 100000 in
theorem xFL_p0_36 : xm_fq (2, 164, 8, 4, 6) := ⟨_, _, rfl, by decide, by decide, rfl, rfl, xg_of (i := 249) rfl rfl⟩
set_option maxRecDepth 100000 in
theorem xFL_p0_37 : xm_fq (2, 178, 5, 3, 6) := ⟨_, _, rfl, by decide, by decide, rfl, rfl, xg_of (i := 316) rfl rfl⟩
set_option maxRecDepth 100000 in
theorem xFL_p0_38 : xm_fq (2, 181, 5, 4, 6) := ⟨_, _, rfl, by decide, by decide, rfl, rfl, xg_of (i := 319) rfl rfl⟩
set_option maxRecDepth 100000 in
theorem xFL_p0_39 : xm_fq (3, 11, 4, 0, 6) := ⟨_, _, rfl, by decide, by decide, rfl, rfl, xg_of (i := 408) rfl rfl⟩
def xFL_0 : List (Nat × Nat × Nat × Nat × Nat) := [(0, 9, 1, 0, 6), (1, 9, 2, 0, 6), (1, 15, 2, 1, 6), (1, 18, 2, 2, 6), (1, 21, 2, 3, 6), (1, 24, 2, 4, 6), (2, 12, 3, 0, 6), (2, 21, 3, 1, 6), (2, 32, 3, 2, 6), (2, 36, 3, 3, 6), (2, 40, 3, 4, 6), (2, 43, 3, 5, 6), (2, 46, 3, 7, 6), (2, 49, 3, 8, 6), (2, 52, 8, 5, 6), (2, 55, 8, 9, 6), (2, 62, 7, 0, 0), (2, 66, 8, 6, 6), (2, 69, 8, 1, 0), (2, 72, 8, 8, 6), (2, 75, 7, 7, 0), (2, 78, 8, 7, 6), (2, 85, 8, 0, 0), (2, 103, 8, 2, 0), (2, 106, 5, 2, 6), (2, 109, 5, 1, 6), (2, 112, 5, 0, 6), (2, 115, 7, 6, 6), (2, 118, 1, 4, 0), (2, 123, 8, 10, 6), (2, 127, 1, 5, 0), (2, 133, 1, 3, 0), (2, 139, 3, 6, 0), (2, 152, 3, 9, 0), (2, 155, 1, 7, 0), (2, 161, 7, 2, 6), (2, 164, 8, 4, 6), (2, 178, 5, 3, 6), (2, 181, 5, 4, 6), (3, 11, 4, 0, 6)]
theorem xFL_ok0 : ∀ q ∈ xFL_0, xm_fq q := List.forall_mem_cons.mpr ⟨xFL_p0_0, List.forall_mem_cons.mpr ⟨xFL_p0_1, List.forall_mem_cons.mpr ⟨xFL_p0_2, List.forall_mem_cons.mpr ⟨xFL_p0_3, List.forall_mem_cons.mpr ⟨xFL_p0_4, List.forall_mem_cons.mpr ⟨xFL_p0_5, List.forall_mem_cons.mpr ⟨xFL_p0_6, List.forall_mem_cons.mpr ⟨xFL_p0_7, List.forall_mem_cons.mpr ⟨xFL_p0_8, List.forall_mem_cons.mpr ⟨xFL_p0_9, List.forall_mem_cons.mpr ⟨xFL_p0_10, List.forall_mem_cons.mpr ⟨xFL_p0_11, List.forall_mem_cons.mpr ⟨xFL_p0_12, List.forall_mem_cons.mpr ⟨xFL_p0_13, List.forall_mem_cons.mpr ⟨xFL_p0_14, List.forall_mem_cons.mpr ⟨xFL_p0_15, List.forall_mem_cons.mpr ⟨xFL_p0_16, List.forall_mem_cons.mpr ⟨xFL_p0_17, List.forall_mem_cons.mpr ⟨xFL_p0_18, List.forall_mem_cons.mpr ⟨xFL_p0_19, List.forall_mem_cons.mpr ⟨xFL_p0_20, List.forall_mem_cons.mpr ⟨xFL_p0_21, List.forall_mem_cons.mpr ⟨xFL_p0_22, List.forall_mem_cons.mpr ⟨xFL_p0_23, List.forall_mem_cons.mpr ⟨xFL_p0_24, List.forall_mem_cons.mpr ⟨xFL_p0_25, List.forall_mem_cons.mpr ⟨xFL_p0_26, List.forall_mem_cons.mpr ⟨xFL_p0_27, List.forall_mem_cons.mpr ⟨xFL_p0_28, List.forall_mem_cons.mpr ⟨xFL_p0_29, List.forall_mem_cons.mpr ⟨xFL_p0_30, List.forall_mem_cons.mpr ⟨xFL_p0_31, List.forall_mem_cons.mpr ⟨xFL_p0_32, List.forall_mem_cons.mpr ⟨xFL_p0_33, List.forall_mem_cons.mpr ⟨xFL_p0_34, List.forall_mem_cons.mpr ⟨xFL_p0_35, List.forall_mem_cons.mpr ⟨xFL_p0_36, List.forall_mem_cons.mpr ⟨xFL_p0_37, List.forall_mem_cons.mpr ⟨xFL_p0_38, List.forall_mem_cons.mpr ⟨xFL_p0_39, fun _ h => absurd h List.not_mem_nil⟩⟩⟩⟩⟩⟩⟩⟩⟩⟩⟩⟩⟩⟩⟩⟩⟩⟩⟩⟩⟩⟩⟩⟩⟩⟩⟩⟩⟩⟩⟩⟩⟩⟩⟩⟩⟩⟩⟩⟩
set_option maxRecDepth 100000 in
theorem xFL_p1_0 : xm_fq (3, 18, 4, 1, 0) := ⟨_, _, rfl, by decide, by decide, rfl, rfl, xg_of (i := 409) rfl rfl⟩
set_option maxRecDepth 100000 in
theorem xFL_p1_1 : xm_fq (3, 22, 4, 2, 0) := ⟨_, _, rfl, by decide, by decide, rfl, rfl, xg_of (i := 410) rfl rfl⟩
set_option maxRecDepth 100000 in
theorem xFL_p1_2 : xm_fq (4, 11, 5, 0, 6) := ⟨_, _, rfl, by decide, by decide, rfl, rfl, xg_of (i := 306) rfl rfl⟩
set_option maxRecDepth 100000 in
theorem xFL_p1_3 : xm_fq (4, 15, 5, 1, 6) := ⟨_, _, rfl, by decide, by decide, rfl, rfl, xg_of (i := 309) rfl rfl⟩
set_option maxRecDepth 100000 in
theorem xFL_p1_4 : xm_fq (4, 18, 5, 2, 6) := ⟨_, _, rfl, by decide, by decide, rfl, rfl, xg_of (i := 312) rfl rfl⟩
set_option maxRecDepth 100000 in
theorem xFL_p1_5 : xm_fq (4, 21, 5, 3, 6) := ⟨_, _, rfl, by decide, by decide, rfl, rfl, xg_of (i := 315) rfl rfl⟩
set_option maxRecDepth 100000 in
theorem xFL_p1_6 : xm_fq (4, 24, 5, 4, 6) := ⟨_, _, rfl, by decide, by decide, rfl, rfl, xg_of (i := 318) rfl rfl⟩
set_option maxRecDepth 100000 in
theorem xFL_p1_7 : xm_fq (5, 12, 6, 0, 6) := ⟨_, _, rfl, by decide, by decide, rfl, rfl, xg_of (i := 200) rfl rfl⟩
set_option maxRecDepth 100000 in
theorem xFL_p1_8 : xm_fq (5, 21, 6, 3, 6) := ⟨_, _, rfl, by decide, by decide, rfl, rfl, xg_of (i := 204) rfl rfl⟩
set_option maxRecDepth 100000 in
theorem xFL_p1_9 : xm_fq (5, 25, 6, 4, 0) := ⟨_, _, rfl, by decide, by decide, rfl, rfl, xg_of (i := 206) rfl rfl⟩
set_option maxRecDepth 100000 in
theorem xFL_p1_10 : xm_fq (5, 29, 6, 5, 0) := ⟨_, _, rfl, by decide, by decide, rfl, rfl, xg_of (i := 208) rfl rfl⟩
set_option maxRecDepth 100000 in
theorem xFL_p1_11 : xm_fq (5, 39, 10, 4, 0) := ⟨_, _, rfl, by decide, by decide, rfl, rfl, xg_of (i := 57) rfl rfl⟩
set_option maxRecDepth 100000 in
theorem xFL_p1_12 : xm_fq (5, 92, 6, 1, 0) := ⟨_, _, rfl, by decide, by decide, rfl, rfl, xg_of (i := 202) rfl rfl⟩
set_option maxRecDepth 100000 in
theorem xFL_p1_13 : xm_fq (5, 95, 7, 0, 0) := ⟨_, _, rfl, by decide, by decide, rfl, rfl, xg_of (i := 151) rfl rfl⟩
set_option maxRecDepth 100000 in
theorem xFL_p1_14 : xm_fq (5, 101, 7, 1, 0) := ⟨_, _, rfl, by decide, by decide, rfl, rfl, xg_of (i := 154) rfl rfl⟩
set_option maxRecDepth 100000 in
theorem xFL_p1_15 : xm_fq (5, 104, 7, 2, 6) := ⟨_, _, rfl, by decide, by decide, rfl, rfl, xg_of (i := 157) rfl rfl⟩
set_option maxRecDepth 100000 in
theorem xFL_p1_16 : xm_fq (5, 107, 7, 3, 0) := ⟨_, _, rfl, by decide, by decide, rfl, rfl, xg_of (i := 160) rfl rfl⟩
set_option maxRecDepth 100000 in
theorem xFL_p1_17 : xm_fq (5, 117, 7, 5, 0) := ⟨_, _, rfl, by decide, by decide, rfl, rfl, xg_of (i := 167) rfl rfl⟩
set_option maxRecDepth 100000 in
theorem xFL_p1_18 : xm_fq (5, 120, 7, 4, 6) := ⟨_, _, rfl, by decide, by decide, rfl, rfl, xg_of (i := 164) rfl rfl⟩
set_option maxRecDepth 100000 in
theorem xFL_p1_19 : xm_fq (5, 135, 9, 0, 6) := ⟨_, _, rfl, by decide, by decide, rfl, rfl, xg_of (i := 94) rfl rfl⟩
set_option maxRecDepth 100000 in
theorem xFL_p1_20 : xm_fq (5, 141, 9, 1, 0) := ⟨_, _, rfl, by decide, by decide, rfl, rfl, xg_of (i := 96) rfl rfl⟩
set_option maxRecDepth 100000 in
theorem xFL_p1_21 : xm_fq (5, 144, 7, 7, 0) := ⟨_, _, rfl, by decide, by decide, rfl, rfl, xg_of (i := 178) rfl rfl⟩
set_option maxRecDepth 100000 in
theorem xFL_p1_22 : xm_fq (5, 147, 7, 6, 6) := ⟨_, _, rfl, by decide, by decide, rfl, rfl, xg_of (i := 171) rfl rfl⟩
set_option maxRecDepth 100000 in
theorem xFL_p1_23 : xm_fq (5, 154, 1, 0, 6) := ⟨_, _, rfl, by decide, by decide, rfl, rfl, xg_of (i := 113) rfl rfl⟩
set_option maxRecDepth 100000 in
theorem xFL_p1_24 : xm_fq (5, 157, 1, 1, 0) := ⟨_, _, rfl, by decide, by decide, rfl, rfl, xg_of (i := 116) rfl rfl⟩
set_option maxRecDepth 100000 in
theorem xFL_p1_25 : xm_fq (5, 160, 1, 2, 0) := ⟨_, _, rfl, by decide, by decide, rfl, rfl, xg_of (i := 118) rfl rfl⟩
set_option maxRecDepth 100000 in
theorem xFL_p1_26 : xm_fq (5, 163, 1, 3, 0) := ⟨_, _, rfl, by decide, by decide, rfl, rfl, xg_of (i := 119) rfl rfl⟩
set_option maxRecDepth 100000 in
theorem xFL_p1_27 : xm_fq (5, 166, 1, 4, 0) := ⟨_, _, rfl, by decide, by decide, rfl, rfl, xg_of (i := 121) rfl rfl⟩
set_option maxRecDepth 100000 in
theorem xFL_p1_28 : xm_fq (5, 172, 6, 2, 0) := ⟨_, _, rfl, by decide, by decide, rfl, rfl, xg_of (i := 203) rfl rfl⟩
set_option maxRecDepth 100000 in
theorem xFL_p1_29 : xm_fq (5, 175, 1, 5, 0) := ⟨_, _, rfl, by decide, by decide, rfl, rfl, xg_of (i := 123) rfl rfl⟩
set_option maxRecDepth 100000 in
theorem xFL_p1_30 : xm_fq (5, 178, 1, 6, 0) := ⟨_, _, rfl, by decide, by decide, rfl, rfl, xg_of (i := 126) rfl rfl⟩
set_option maxRecDepth 100000 in
theorem xFL_p1_31 : xm_fq (5, 181, 1, 7, 0) := ⟨_, _, rfl, by decide, by decide, rfl, rfl, xg_of (i := 127) rfl rfl⟩
set_option maxRecDepth 100000 in
theorem xFL_p1_32 : xm_fq (5, 194, 7, 8, 0) := ⟨_, _, rfl, by decide, by decide, rfl, rfl, xg_of (i := 180) rfl rfl⟩
set_option maxRecDepth 100000 in
theorem xFL_p1_33 : xm_fq (5, 197, 10, 6, 0) := ⟨_, _, rfl, by decide, by decide, rfl, rfl, xg_of (i := 62) rfl rfl⟩
set_option maxRecDepth 100000 in
theorem xFL_p1_34 : xm_fq (5, 200, 10, 5, 0) := ⟨_, _, rfl, by decide, by decide, rfl, rfl, xg_of (i := 60) rfl rfl⟩
set_option maxRecDepth 100000 in
theorem xFL_p1_35 : xm_fq (6, 9, 7, 2, 6) := ⟨_, _, rfl, by decide, by decide, rfl, rfl, xg_of (i := 156) rfl rfl⟩
set_option maxRecDepth 100000 in
theorem xFL_p1_36 : xm_fq (6, 17, 7, 4, 6) := ⟨_, _, rfl, by decide, by decide, rfl, rfl, xg_of (i := 162) rfl rfl⟩
set_option maxRecDepth 100000 in
theorem xFL_p1_37 : xm_fq (6, 24, 7, 6, 6) := ⟨_, _, rfl, by decide, by decide, rfl, rfl, xg_of (i := 169) rfl rfl⟩
set_option maxRecDepth 100000 in
theorem xFL_p1_38 : xm_fq (6, 32, 7, 0, 0) := ⟨_, _, rfl, by decide, by decide, rfl, rfl, xg_of (i := 150) rfl rfl⟩
set_option maxRecDepth 100000 in
theorem xFL_p1_39 : xm_fq (6, 36, 7, 1, 0) := ⟨_, _, rfl, by decide, by decide, rfl, rfl, xg_of (i := 153) rfl rfl⟩
def xFL_1 : List (Nat × Nat × Nat × Nat × Nat) := [(3, 18, 4, 1, 0), (3, 22, 4, 2, 0), (4, 11, 5, 0, 6), (4, 15, 5, 1, 6), (4, 18, 5, 2, 6), (4, 21, 5, 3, 6), (4, 24, 5, 4, 6), (5, 12, 6, 0, 6), (5, 21, 6, 3, 6), (5, 25, 6, 4, 0), (5, 29, 6, 5, 0), (5, 39, 10, 4, 0), (5, 92, 6, 1, 0), (5, 95, 7, 0, 0), (5, 101, 7, 1, 0), (5, 104, 7, 2, 6), (5, 107, 7, 3, 0), (5, 117, 7, 5, 0), (5, 120, 7, 4, 6), (5, 135, 9, 0, 6), (5, 141, 9, 1, 0), (5, 144, 7, 7, 0), (5, 147, 7, 6, 6), (5, 154, 1, 0, 6), (5, 157, 1, 1, 0), (5, 160, 1, 2, 0), (5, 163, 1, 3, 0), (5, 166, 1, 4, 0), (5, 172, 6, 2, 0), (5, 175, 1, 5, 0), (5, 178, 1, 6, 0), (5, 181, 1, 7, 0), (5, 194, 7, 8, 0), (5, 197, 10, 6, 0), (5, 200, 10, 5, 0), (6, 9, 7, 2, 6), (6, 17, 7, 4, 6), (6, 24, 7, 6, 6), (6, 32, 7, 0, 0), (6, 36, 7, 1, 0)]
theorem xFL_ok1 : ∀ q ∈ xFL_1, xm_fq q := List.forall_mem_cons.mpr ⟨xFL_p1_0, List.forall_mem_cons.mpr ⟨xFL_p1_1, List.forall_mem_cons.mpr ⟨xFL_p1_2, List.forall_mem_cons.mpr ⟨xFL_p1_3, List.forall_mem_cons.mpr ⟨xFL_p1_4, List.forall_mem_cons.mpr ⟨xFL_p1_5, List.forall_mem_cons.mpr ⟨xFL_p1_6, List.forall_mem_cons.mpr ⟨xFL_p1_7, List.forall_mem_cons.mpr ⟨xFL_p1_8, List.forall_mem_cons.mpr ⟨xFL_p1_9, List.forall_mem_cons.mpr ⟨xFL_p1_10, List.forall_mem_cons.mpr ⟨xFL_p1_11, List.forall_mem_cons.mpr ⟨xFL_p1_12, List.forall_mem_cons.mpr ⟨xFL_p1_13, List.forall_mem_cons.mpr ⟨xFL_p1_14, List.forall_mem_cons.mpr ⟨xFL_p1_15, List.forall_mem_cons.mpr ⟨xFL_p1_16, List.forall_mem_cons.mpr ⟨xFL_p1_17, List.forall_mem_cons.mpr ⟨xFL_p1_18, List.forall_mem_cons.mpr ⟨xFL_p1_19, List.forall_mem_cons.mpr ⟨xFL_p1_20, List.forall_mem_cons.mpr ⟨xFL_p1_21, List.forall_mem_cons.mpr ⟨xFL_p1_22, List.forall_mem_cons.mpr ⟨xFL_p1_23, List.forall_mem_cons.mpr ⟨xFL_p1_24, List.forall_mem_cons.mpr ⟨xFL_p1_25, List.forall_mem_cons.mpr ⟨xFL_p1_26, List.forall_mem_cons.mpr ⟨xFL_p1_27, List.forall_mem_cons.mpr ⟨xFL_p1_28, List.forall_mem_cons.mpr ⟨xFL_p1_29, List.forall_mem_cons.mpr ⟨xFL_p1_30, List.forall_mem_cons.mpr ⟨xFL_p1_31, List.forall_mem_cons.mpr ⟨xFL_p1_32, List.forall_mem_cons.mpr ⟨xFL_p1_33, List.forall_mem_cons.mpr ⟨xFL_p1_34, List.forall_mem_cons.mpr ⟨xFL_p1_35, List.forall_mem_cons.mpr ⟨xFL_p1_36, List.forall_mem_cons.mpr ⟨xFL_p1_37, List.forall_mem_cons.mpr ⟨xFL_p1_38, List.forall_mem_cons.mpr ⟨xFL_p1_39, fun _ h => absurd h List.not_mem_nil⟩⟩⟩⟩⟩⟩⟩⟩⟩⟩⟩⟩⟩⟩⟩⟩⟩⟩⟩⟩⟩⟩⟩⟩⟩⟩⟩⟩⟩⟩⟩⟩⟩⟩⟩⟩⟩⟩⟩⟩
set_option maxRecDepth 100000 in
theorem xFL_p2_0 : xm_fq (6, 39, 7, 3, 0) := ⟨_, _, rfl, by decide, by decide, rfl, rfl, xg_of (i := 159) rfl rfl⟩
set_option maxRecDepth 100000 in
theorem xFL_p2_1 : xm_fq (6, 42, 7, 5, 0) := ⟨_, _, rfl, by decide, by decide, rfl, rfl, xg_of (i := 166) rfl rfl⟩
set_option maxRecDepth 100000 in
theorem xFL_p2_2 : xm_fq (6, 45, 7, 7, 0) := ⟨_, _, rfl, by decide, by decide, rfl, rfl, xg_of (i := 174) rfl rfl⟩
set_option maxRecDepth 100000 in
theorem xFL_p2_3 : xm_fq (6, 48, 7, 8, 0) := ⟨_, _, rfl, by decide, by decide, rfl, rfl, xg_of (i := 179) rfl rfl⟩
set_option maxRecDepth 100000 in
theorem xFL_p2_4 : xm_fq (7, 9, 8, 4, 6) := ⟨_, _, rfl, by decide, by decide, rfl, rfl, xg_of (i := 247) rfl rfl⟩
set_option maxRecDepth 100000 in
theorem xFL_p2_5 : xm_fq (7, 15, 8, 5, 6) := ⟨_, _, rfl, by decide, by decide, rfl, rfl, xg_of (i := 250) rfl rfl⟩
set_option maxRecDepth 100000 in
theorem xFL_p2_6 : xm_fq (7, 18, 8, 6, 6) := ⟨_, _, rfl, by decide, by decide, rfl, rfl, xg_of (i := 253) rfl rfl⟩
set_option maxRecDepth 100000 in
theorem xFL_p2_7 : xm_fq (7, 21, 8, 7, 6) := ⟨_, _, rfl, by decide, by decide, rfl, rfl, xg_of (i := 256) rfl rfl⟩
set_option maxRecDepth 100000 in
theorem xFL_p2_8 : xm_fq (7, 24, 8, 8, 6) := ⟨_, _, rfl, by decide, by decide, rfl, rfl, xg_of (i := 259) rfl rfl⟩
set_option maxRecDepth 100000 in
theorem xFL_p2_9 : xm_fq (7, 27, 8, 9, 6) := ⟨_, _, rfl, by decide, by decide, rfl, rfl, xg_of (i := 262) rfl rfl⟩
set_option maxRecDepth 100000 in
theorem xFL_p2_10 : xm_fq (7, 30, 8, 10, 6) := ⟨_, _, rfl, by decide, by decide, rfl, rfl, xg_of (i := 265) rfl rfl⟩
set_option maxRecDepth 100000 in
theorem xFL_p2_11 : xm_fq (7, 34, 8, 0, 0) := ⟨_, _, rfl, by decide, by decide, rfl, rfl, xg_of (i := 237) rfl rfl⟩
set_option maxRecDepth 100000 in
theorem xFL_p2_12 : xm_fq (7, 38, 8, 2, 0) := ⟨_, _, rfl, by decide, by decide, rfl, rfl, xg_of (i := 242) rfl rfl⟩
set_option maxRecDepth 100000 in
theorem xFL_p2_13 : xm_fq (7, 41, 8, 3, 0) := ⟨_, _, rfl, by decide, by decide, rfl, rfl, xg_of (i := 245) rfl rfl⟩
set_option maxRecDepth 100000 in
theorem xFL_p2_14 : xm_fq (7, 44, 7, 5, 0) := ⟨_, _, rfl, by decide, by decide, rfl, rfl, xg_of (i := 165) rfl rfl⟩
set_option maxRecDepth 100000 in
theorem xFL_p2_15 : xm_fq (7, 49, 7, 4, 6) := ⟨_, _, rfl, by decide, by decide, rfl, rfl, xg_of (i := 163) rfl rfl⟩
set_option maxRecDepth 100000 in
theorem xFL_p2_16 : xm_fq (7, 53, 9, 1, 0) := ⟨_, _, rfl, by decide, by decide, rfl, rfl, xg_of (i := 95) rfl rfl⟩
set_option maxRecDepth 100000 in
theorem xFL_p2_17 : xm_fq (7, 58, 7, 7, 0) := ⟨_, _, rfl, by decide, by decide, rfl, rfl, xg_of (i := 175) rfl rfl⟩
set_option maxRecDepth 100000 in
theorem xFL_p2_18 : xm_fq (7, 61, 7, 6, 6) := ⟨_, _, rfl, by decide, by decide, rfl, rfl, xg_of (i := 170) rfl rfl⟩
set_option maxRecDepth 100000 in
theorem xFL_p2_19 : xm_fq (7, 65, 1, 1, 0) := ⟨_, _, rfl, by decide, by decide, rfl, rfl, xg_of (i := 115) rfl rfl⟩
set_option maxRecDepth 100000 in
theorem xFL_p2_20 : xm_fq (7, 70, 1, 2, 0) := ⟨_, _, rfl, by decide, by decide, rfl, rfl, xg_of (i := 117) rfl rfl⟩
set_option maxRecDepth 100000 in
theorem xFL_p2_21 : xm_fq (7, 73, 1, 6, 0) := ⟨_, _, rfl, by decide, by decide, rfl, rfl, xg_of (i := 125) rfl rfl⟩
set_option maxRecDepth 100000 in
theorem xFL_p2_22 : xm_fq (7, 79, 8, 1, 0) := ⟨_, _, rfl, by decide, by decide, rfl, rfl, xg_of (i := 240) rfl rfl⟩
set_option maxRecDepth 100000 in
theorem xFL_p2_23 : xm_fq (8, 9, 9, 0, 6) := ⟨_, _, rfl, by decide, by decide, rfl, rfl, xg_of (i := 93) rfl rfl⟩
set_option maxRecDepth 100000 in
theorem xFL_p2_24 : xm_fq (9, 9, 10, 0, 6) := ⟨_, _, rfl, by decide, by decide, rfl, rfl, xg_of (i := 52) rfl rfl⟩
set_option maxRecDepth 100000 in
theorem xFL_p2_25 : xm_fq (9, 15, 10, 1, 0) := ⟨_, _, rfl, by decide, by decide, rfl, rfl, xg_of (i := 53) rfl rfl⟩
set_option maxRecDepth 100000 in
theorem xFL_p2_26 : xm_fq (9, 25, 10, 2, 0) := ⟨_, _, rfl, by decide, by decide, rfl, rfl, xg_of (i := 55) rfl rfl⟩
set_option maxRecDepth 100000 in
theorem xFL_p2_27 : xm_fq (9, 28, 10, 3, 0) := ⟨_, _, rfl, by decide, by decide, rfl, rfl, xg_of (i := 56) rfl rfl⟩
set_option maxRecDepth 100000 in
theorem xFL_p2_28 : xm_fq (9, 34, 10, 5, 0) := ⟨_, _, rfl, by decide, by decide, rfl, rfl, xg_of (i := 59) rfl rfl⟩
set_option maxRecDepth 100000 in
theorem xFL_p2_29 : xm_fq (9, 41, 10, 4, 0) := ⟨_, _, rfl, by decide, by decide, rfl, rfl, xg_of (i := 58) rfl rfl⟩
set_option maxRecDepth 100000 in
theorem xFL_p2_30 : xm_fq (9, 47, 10, 6, 0) := ⟨_, _, rfl, by decide, by decide, rfl, rfl, xg_of (i := 61) rfl rfl⟩
set_option maxRecDepth 100000 in
theorem xFL_p2_31 : xm_fq (10, 10, 0, 0, 6) := ⟨_, _, rfl, by decide, by decide, rfl, rfl, xg_of (i := 451) rfl rfl⟩
set_option maxRecDepth 100000 in
theorem xFL_p2_32 : xm_fq (10, 19, 0, 1, 6) := ⟨_, _, rfl, by decide, by decide, rfl, rfl, xg_of (i := 452) rfl rfl⟩
set_option maxRecDepth 100000 in
theorem xFL_p2_33 : xm_fq (10, 26, 0, 2, 6) := ⟨_, _, rfl, by decide, by decide, rfl, rfl, xg_of (i := 453) rfl rfl⟩
set_option maxRecDepth 100000 in
theorem xFL_p2_34 : xm_fq (10, 33, 0, 3, 6) := ⟨_, _, rfl, by decide, by decide, rfl, rfl, xg_of (i := 454) rfl rfl⟩
set_option maxRecDepth 100000 in
theorem xFL_p2_35 : xm_fq (10, 40, 0, 4, 6) := ⟨_, _, rfl, by decide, by decide, rfl, rfl, xg_of (i := 455) rfl rfl⟩
set_option maxRecDepth 100000 in
theorem xFL_p2_36 : xm_fq (10, 47, 0, 5, 6) := ⟨_, _, rfl, by decide, by decide, rfl, rfl, xg_of (i := 456) rfl rfl⟩
set_option maxRecDepth 100000 in
theorem xFL_p2_37 : xm_fq (10, 51, 6, 0, 6) := ⟨_, _, rfl, by decide, by decide, rfl, rfl, xg_of (i := 201) rfl rfl⟩
set_option maxRecDepth 100000 in
theorem xFL_p2_38 : xm_fq (10, 55, 10, 1, 0) := ⟨_, _, rfl, by decide, by decide, rfl, rfl, xg_of (i := 54) rfl rfl⟩
set_option maxRecDepth 100000 in
theorem xFL_p2_39 : xm_fq (10, 73, 6, 3, 6) := ⟨_, _, rfl, by decide, by decide, rfl, rfl, xg_of (i := 205) rfl rfl⟩
def xFL_2 : List (Nat × Nat × Nat × Nat × Nat) := [(6, 39, 7, 3, 0), (6, 42, 7, 5, 0), (6, 45, 7, 7, 0), (6, 48, 7, 8, 0), (7, 9, 8, 4, 6), (7, 15, 8, 5, 6), (7, 18, 8, 6, 6), (7, 21, 8, 7, 6), (7, 24, 8, 8, 6), (7, 27, 8, 9, 6), (7, 30, 8, 10, 6), (7, 34, 8, 0, 0), (7, 38, 8, 2, 0), (7, 41, 8, 3, 0), (7, 44, 7, 5, 0), (7, 49, 7, 4, 6), (7, 53, 9, 1, 0), (7, 58, 7, 7, 0), (7, 61, 7, 6, 6), (7, 65, 1, 1, 0), (7, 70, 1, 2, 0), (7, 73, 1, 6, 0), (7, 79, 8, 1, 0), (8, 9, 9, 0, 6), (9, 9, 10, 0, 6), (9, 15, 10, 1, 0), (9, 25, 10, 2, 0), (9, 28, 10, 3, 0), (9, 34, 10, 5, 0), (9, 41, 10, 4, 0), (9, 47, 10, 6, 0), (10, 10, 0, 0, 6), (10, 19, 0, 1, 6), (10, 26, 0, 2, 6), (10, 33, 0, 3, 6), (10, 40, 0, 4, 6), (10, 47, 0, 5, 6), (10, 51, 6, 0, 6), (10, 55, 10, 1, 0), (10, 73, 6, 3, 6)]
theorem xFL_ok2 : ∀ q ∈ xFL_2, xm_fq q := List.forall_mem_cons.mpr ⟨xFL_p2_0, List.forall_mem_cons.mpr ⟨xFL_p2_1, List.forall_mem_cons.mpr ⟨xFL_p2_2, List.forall_mem_cons.mpr ⟨xFL_p2_3, List.forall_mem_cons.mpr ⟨xFL_p2_4, List.forall_mem_cons.mpr ⟨xFL_p2_5, List.forall_mem_cons.mpr ⟨xFL_p2_6, List.forall_mem_cons.mpr ⟨xFL_p2_7, List.forall_mem_cons.mpr ⟨xFL_p2_8, List.forall_mem_cons.mpr ⟨xFL_p2_9, List.forall_mem_cons.mpr ⟨xFL_p2_10, List.forall_mem_cons.mpr ⟨xFL_p2_11, List.forall_mem_cons.mpr ⟨xFL_p2_12, List.forall_mem_cons.mpr ⟨xFL_p2_13, List.forall_mem_cons.mpr ⟨xFL_p2_14, List.forall_mem_cons.mpr ⟨xFL_p2_15, List.forall_mem_cons.mpr ⟨xFL_p2_16, List.forall_mem_cons.mpr ⟨xFL_p2_17, List.forall_mem_cons.mpr ⟨xFL_p2_18, List.forall_mem_cons.mpr ⟨xFL_p2_19, List.forall_mem_cons.mpr ⟨xFL_p2_20, List.forall_mem_cons.mpr ⟨xFL_p2_21, List.forall_mem_cons.mpr ⟨xFL_p2_22, List.forall_mem_cons.mpr ⟨xFL_p2_23, List.forall_mem_cons.mpr ⟨xFL_p2_24, List.forall_mem_cons.mpr ⟨xFL_p2_25, List.forall_mem_cons.mpr ⟨xFL_p2_26, List.forall_mem_cons.mpr ⟨xFL_p2_27, List.forall_mem_cons.mpr ⟨xFL_p2_28, List.forall_mem_cons.mpr ⟨xFL_p2_29, List.forall_mem_cons.mpr ⟨xFL_p2_30, List.forall_mem_cons.mpr ⟨xFL_p2_31, List.forall_mem_cons.mpr ⟨xFL_p2_32, List.forall_mem_cons.mpr ⟨xFL_p2_33, List.forall_mem_cons.mpr ⟨xFL_p2_34, List.forall_mem_cons.mpr ⟨xFL_p2_35, List.forall_mem_cons.mpr ⟨xFL_p2_36, List.forall_mem_cons.mpr ⟨xFL_p2_37, List.forall_mem_cons.mpr ⟨xFL_p2_38, List.forall_mem_cons.mpr ⟨xFL_p2_39, fun _ h => absurd h List.not_mem_nil⟩⟩⟩⟩⟩⟩⟩⟩⟩⟩⟩⟩⟩⟩⟩⟩⟩⟩⟩⟩⟩⟩⟩⟩⟩⟩⟩⟩⟩⟩⟩⟩⟩⟩⟩⟩⟩⟩⟩⟩
set_option maxRecDepth 100000 in
theorem xFL_p3_0 : xm_fq (10, 84, 3, 0, 6) := ⟨_, _, rfl, by decide, by decide, rfl, rfl, xg_of (i := 333) rfl rfl⟩
set_option maxRecDepth 100000 in
theorem xFL_p3_1 : xm_fq (10, 87, 7, 7, 0) := ⟨_, _, rfl, by decide, by decide, rfl, rfl, xg_of (i := 176) rfl rfl⟩
set_option maxRecDepth 100000 in
theorem xFL_p3_2 : xm_fq (10, 92, 6, 4, 0) := ⟨_, _, rfl, by decide, by decide, rfl, rfl, xg_of (i := 207) rfl rfl⟩
set_option maxRecDepth 100000 in
theorem xFL_p3_3 : xm_fq (10, 95, 6, 5, 0) := ⟨_, _, rfl, by decide, by decide, rfl, rfl, xg_of (i := 209) rfl rfl⟩
set_option maxRecDepth 100000 in
theorem xFL_p3_4 : xm_fq (10, 98, 7, 5, 0) := ⟨_, _, rfl, by decide, by decide, rfl, rfl, xg_of (i := 168) rfl rfl⟩
set_option maxRecDepth 100000 in
theorem xFL_p3_5 : xm_fq (10, 101, 7, 3, 0) := ⟨_, _, rfl, by decide, by decide, rfl, rfl, xg_of (i := 161) rfl rfl⟩
set_option maxRecDepth 100000 in
theorem xFL_p3_6 : xm_fq (10, 107, 3, 1, 6) := ⟨_, _, rfl, by decide, by decide, rfl, rfl, xg_of (i := 335) rfl rfl⟩
set_option maxRecDepth 100000 in
theorem xFL_p3_7 : xm_fq (10, 110, 8, 4, 6) := ⟨_, _, rfl, by decide, by decide, rfl, rfl, xg_of (i := 248) rfl rfl⟩
set_option maxRecDepth 100000 in
theorem xFL_p3_8 : xm_fq (10, 117, 8, 5, 6) := ⟨_, _, rfl, by decide, by decide, rfl, rfl, xg_of (i := 252) rfl rfl⟩
set_option maxRecDepth 100000 in
theorem xFL_p3_9 : xm_fq (10, 124, 8, 9, 6) := ⟨_, _, rfl, by decide, by decide, rfl, rfl, xg_of (i := 264) rfl rfl⟩
set_option maxRecDepth 100000 in
theorem xFL_p3_10 : xm_fq (10, 127, 8, 6, 6) := ⟨_, _, rfl, by decide, by decide, rfl, rfl, xg_of (i := 255) rfl rfl⟩
set_option maxRecDepth 100000 in
theorem xFL_p3_11 : xm_fq (10, 130, 8, 8, 6) := ⟨_, _, rfl, by decide, by decide, rfl, rfl, xg_of (i := 261) rfl rfl⟩
set_option maxRecDepth 100000 in
theorem xFL_p3_12 : xm_fq (10, 136, 8, 7, 6) := ⟨_, _, rfl, by decide, by decide, rfl, rfl, xg_of (i := 258) rfl rfl⟩
set_option maxRecDepth 100000 in
theorem xFL_p3_13 : xm_fq (10, 139, 8, 0, 0) := ⟨_, _, rfl, by decide, by decide, rfl, rfl, xg_of (i := 239) rfl rfl⟩
set_option maxRecDepth 100000 in
theorem xFL_p3_14 : xm_fq (10, 162, 3, 6, 0) := ⟨_, _, rfl, by decide, by decide, rfl, rfl, xg_of (i := 344) rfl rfl⟩
set_option maxRecDepth 100000 in
theorem xFL_p3_15 : xm_fq (10, 165, 3, 5, 6) := ⟨_, _, rfl, by decide, by decide, rfl, rfl, xg_of (i := 342) rfl rfl⟩
set_option maxRecDepth 100000 in
theorem xFL_p3_16 : xm_fq (10, 175, 3, 9, 0) := ⟨_, _, rfl, by decide, by decide, rfl, rfl, xg_of (i := 350) rfl rfl⟩
set_option maxRecDepth 100000 in
theorem xFL_p3_17 : xm_fq (10, 178, 3, 7, 6) := ⟨_, _, rfl, by decide, by decide, rfl, rfl, xg_of (i := 346) rfl rfl⟩
set_option maxRecDepth 100000 in
theorem xFL_p3_18 : xm_fq (10, 181, 3, 8, 6) := ⟨_, _, rfl, by decide, by decide, rfl, rfl, xg_of (i := 348) rfl rfl⟩
set_option maxRecDepth 100000 in
theorem xFL_p3_19 : xm_fq (10, 201, 3, 2, 6) := ⟨_, _, rfl, by decide, by decide, rfl, rfl, xg_of (i := 337) rfl rfl⟩
set_option maxRecDepth 100000 in
theorem xFL_p3_20 : xm_fq (10, 205, 8, 2, 0) := ⟨_, _, rfl, by decide, by decide, rfl, rfl, xg_of (i := 244) rfl rfl⟩
set_option maxRecDepth 100000 in
theorem xFL_p3_21 : xm_fq (10, 236, 8, 3, 0) := ⟨_, _, rfl, by decide, by decide, rfl, rfl, xg_of (i := 246) rfl rfl⟩
set_option maxRecDepth 100000 in
theorem xFL_p3_22 : xm_fq (10, 247, 2, 2, 6) := ⟨_, _, rfl, by decide, by decide, rfl, rfl, xg_of (i := 384) rfl rfl⟩
set_option maxRecDepth 100000 in
theorem xFL_p3_23 : xm_fq (10, 250, 7, 1, 0) := ⟨_, _, rfl, by decide, by decide, rfl, rfl, xg_of (i := 155) rfl rfl⟩
set_option maxRecDepth 100000 in
theorem xFL_p3_24 : xm_fq (10, 253, 5, 1, 6) := ⟨_, _, rfl, by decide, by decide, rfl, rfl, xg_of (i := 311) rfl rfl⟩
set_option maxRecDepth 100000 in
theorem xFL_p3_25 : xm_fq (10, 256, 5, 0, 6) := ⟨_, _, rfl, by decide, by decide, rfl, rfl, xg_of (i := 308) rfl rfl⟩
set_option maxRecDepth 100000 in
theorem xFL_p3_26 : xm_fq (10, 259, 5, 2, 6) := ⟨_, _, rfl, by decide, by decide, rfl, rfl, xg_of (i := 314) rfl rfl⟩
set_option maxRecDepth 100000 in
theorem xFL_p3_27 : xm_fq (10, 265, 8, 10, 6) := ⟨_, _, rfl, by decide, by decide, rfl, rfl, xg_of (i := 267) rfl rfl⟩
set_option maxRecDepth 100000 in
theorem xFL_p3_28 : xm_fq (10, 278, 4, 2, 0) := ⟨_, _, rfl, by decide, by decide, rfl, rfl, xg_of (i := 411) rfl rfl⟩
set_option maxRecDepth 100000 in
theorem xFL_p3_29 : xm_fq (10, 299, 3, 3, 6) := ⟨_, _, rfl, by decide, by decide, rfl, rfl, xg_of (i := 339) rfl rfl⟩
set_option maxRecDepth 100000 in
theorem xFL_p3_30 : xm_fq (10, 305, 5, 3, 6) := ⟨_, _, rfl, by decide, by decide, rfl, rfl, xg_of (i := 317) rfl rfl⟩
set_option maxRecDepth 100000 in
theorem xFL_p3_31 : xm_fq (10, 308, 5, 4, 6) := ⟨_, _, rfl, by decide, by decide, rfl, rfl, xg_of (i := 320) rfl rfl⟩
set_option maxRecDepth 100000 in
theorem xFL_p3_32 : xm_fq (10, 313, 2, 3, 6) := ⟨_, _, rfl, by decide, by decide, rfl, rfl, xg_of (i := 386) rfl rfl⟩
set_option maxRecDepth 100000 in
theorem xFL_p3_33 : xm_fq (10, 316, 2, 0, 6) := ⟨_, _, rfl, by decide, by decide, rfl, rfl, xg_of (i := 381) rfl rfl⟩
set_option maxRecDepth 100000 in
theorem xFL_p3_34 : xm_fq (10, 322, 7, 6, 6) := ⟨_, _, rfl, by decide, by decide, rfl, rfl, xg_of (i := 173) rfl rfl⟩
set_option maxRecDepth 100000 in
theorem xFL_p3_35 : xm_fq (10, 325, 1, 0, 6) := ⟨_, _, rfl, by decide, by decide, rfl, rfl, xg_of (i := 114) rfl rfl⟩
set_option maxRecDepth 100000 in
theorem xFL_p3_36 : xm_fq (11, 7, 11, 0, 6) := ⟨_, _, rfl, by decide, by decide, rfl, rfl, xg_of (i := 1555) rfl rfl⟩
set_option maxRecDepth 100000 in
theorem xFL_p3_37 : xm_fq (11, 13, 11, 1, 6) := ⟨_, _, rfl, by decide, by decide, rfl, rfl, xg_of (i := 1556) rfl rfl⟩
set_option maxRecDepth 100000 in
theorem xFL_p3_38 : xm_fq (11, 16, 11, 2, 6) := ⟨_, _, rfl, by decide, by decide, rfl, rfl, xg_of (i := 1557) rfl rfl⟩
set_option maxRecDepth 100000 in
theorem xFL_p3_39 : xm_fq (11, 19, 11, 5, 6) := ⟨_, _, rfl, by decide, by decide, rfl, rfl, xg_of (i := 1560) rfl rfl⟩
def xFL_3 : List (Nat × Nat × Nat × Nat × Nat) := [(10, 84, 3, 0, 6), (10, 87, 7, 7, 0), (10, 92, 6, 4, 0), (10, 95, 6, 5, 0), (10, 98, 7, 5, 0), (10, 101, 7, 3, 0), (10, 107, 3, 1, 6), (10, 110, 8, 4, 6), (10, 117, 8, 5, 6), (10, 124, 8, 9, 6), (10, 127, 8, 6, 6), (10, 130, 8, 8, 6), (10, 136, 8, 7, 6), (10, 139, 8, 0, 0), (10, 162, 3, 6, 0), (10, 165, 3, 5, 6), (10, 175, 3, 9, 0), (10, 178, 3, 7, 6), (10, 181, 3, 8, 6), (10, 201, 3, 2, 6), (10, 205, 8, 2, 0), (10, 236, 8, 3, 0), (10, 247, 2, 2, 6), (10, 250, 7, 1, 0), (10, 253, 5, 1, 6), (10, 256, 5, 0, 6), (10, 259, 5, 2, 6), (10, 265, 8, 10, 6), (10, 278, 4, 2, 0), (10, 299, 3, 3, 6), (10, 305, 5, 3, 6), (10, 308, 5, 4, 6), (10, 313, 2, 3, 6), (10, 316, 2, 0, 6), (10, 322, 7, 6, 6), (10, 325, 1, 0, 6), (11, 7, 11, 0, 6), (11, 13, 11, 1, 6), (11, 16, 11, 2, 6), (11, 19, 11, 5, 6)]
theorem xFL_ok3 : ∀ q ∈ xFL_3, xm_fq q := List.forall_mem_cons.mpr ⟨xFL_p3_0, List.forall_mem_cons.mpr ⟨xFL_p3_1, List.forall_mem_cons.mpr ⟨xFL_p3_2, List.forall_mem_cons.mpr ⟨xFL_p3_3, List.forall_mem_cons.mpr ⟨xFL_p3_4, List.forall_mem_cons.mpr ⟨xFL_p3_5, List.forall_mem_cons.mpr ⟨xFL_p3_6, List.forall_mem_cons.mpr ⟨xFL_p3_7, List.forall_mem_cons.mpr ⟨xFL_p3_8, List.forall_mem_cons.mpr ⟨xFL_p3_9, List.forall_mem_cons.mpr ⟨xFL_p3_10, List.forall_mem_cons.mpr ⟨xFL_p3_11, List.forall_mem_cons.mpr ⟨xFL_p3_12, List.forall_mem_cons.mpr ⟨xFL_p3_13, List.forall_mem_cons.mpr ⟨xFL_p3_14, List.forall_mem_cons.mpr ⟨xFL_p3_15, List.forall_mem_cons.mpr ⟨xFL_p3_16, List.forall_mem_cons.mpr ⟨xFL_p3_17, List.forall_mem_cons.mpr ⟨xFL_p3_18, List.forall_mem_cons.mpr ⟨xFL_p3_19, List.forall_mem_cons.mpr ⟨xFL_p3_20, List.forall_mem_cons.mpr ⟨xFL_p3_21, List.forall_mem_cons.mpr ⟨xFL_p3_22, List.forall_mem_cons.mpr ⟨xFL_p3_23, List.forall_mem_cons.mpr ⟨xFL_p3_24, List.forall_mem_cons.mpr ⟨xFL_p3_25, List.forall_mem_cons.mpr ⟨xFL_p3_26, List.forall_mem_cons.mpr ⟨xFL_p3_27, List.forall_mem_cons.mpr ⟨xFL_p3_28, List.forall_mem_cons.mpr ⟨xFL_p3_29, List.forall_mem_cons.mpr ⟨xFL_p3_30, List.forall_mem_cons.mpr ⟨xFL_p3_31, List.forall_mem_cons.mpr ⟨xFL_p3_32, List.forall_mem_cons.mpr ⟨xFL_p3_33, List.forall_mem_cons.mpr ⟨xFL_p3_34, List.forall_mem_cons.mpr ⟨xFL_p3_35, List.forall_mem_cons.mpr ⟨xFL_p3_36, List.forall_mem_cons.mpr ⟨xFL_p3_37, List.forall_mem_cons.mpr ⟨xFL_p3_38, List.forall_mem_cons.mpr ⟨xFL_p3_39, fun _ h => absurd h List.not_mem_nil⟩⟩⟩⟩⟩⟩⟩⟩⟩⟩⟩⟩⟩⟩⟩⟩⟩⟩⟩⟩⟩⟩⟩⟩⟩⟩⟩⟩⟩⟩⟩⟩⟩⟩⟩⟩⟩⟩⟩⟩
set_option maxRecDepth 100000 in
theorem xFL_p4_0 : xm_fq (11, 22, 11, 8, 0) := ⟨_, _, rfl, by decide, by decide, rfl, rfl, xg_of (i := 1563) rfl rfl⟩
set_option maxRecDepth 100000 in
theorem xFL_p4_1 : xm_fq (11, 26, 11, 18, 6) := ⟨_, _, rfl, by decide, by decide, rfl, rfl, xg_of (i := 1573) rfl rfl⟩
set_option maxRecDepth 100000 in
theorem xFL_p4_2 : xm_fq (11, 29, 11, 19, 6) := ⟨_, _, rfl, by decide, by decide, rfl, rfl, xg_of (i := 1574) rfl rfl⟩
set_option maxRecDepth 100000 in
theorem xFL_p4_3 : xm_fq (11, 32, 11, 20, 6) := ⟨_, _, rfl, by decide, by decide, rfl, rfl, xg_of (i := 1575) rfl rfl⟩
set_option maxRecDepth 100000 in
theorem xFL_p4_4 : xm_fq (11, 36, 11, 21, 6) := ⟨_, _, rfl, by decide, by decide, rfl, rfl, xg_of (i := 1576) rfl rfl⟩
set_option maxRecDepth 100000 in
theorem xFL_p4_5 : xm_fq (11, 39, 11, 22, 6) := ⟨_, _, rfl, by decide, by decide, rfl, rfl, xg_of (i := 1577) rfl rfl⟩
set_option maxRecDepth 100000 in
theorem xFL_p4_6 : xm_fq (11, 42, 11, 24, 6) := ⟨_, _, rfl, by decide, by decide, rfl, rfl, xg_of (i := 1579) rfl rfl⟩
set_option maxRecDepth 100000 in
theorem xFL_p4_7 : xm_fq (11, 45, 11, 25, 6) := ⟨_, _, rfl, by decide, by decide, rfl, rfl, xg_of (i := 1580) rfl rfl⟩
set_option maxRecDepth 100000 in
theorem xFL_p4_8 : xm_fq (11, 48, 11, 26, 6) := ⟨_, _, rfl, by decide, by decide, rfl, rfl, xg_of (i := 1581) rfl rfl⟩
set_option maxRecDepth 100000 in
theorem xFL_p4_9 : xm_fq (11, 51, 11, 29, 6) := ⟨_, _, rfl, by decide, by decide, rfl, rfl, xg_of (i := 1584) rfl rfl⟩
set_option maxRecDepth 100000 in
theorem xFL_p4_10 : xm_fq (11, 60, 11, 4, 0) := ⟨_, _, rfl, by decide, by decide, rfl, rfl, xg_of (i := 1559) rfl rfl⟩
set_option maxRecDepth 100000 in
theorem xFL_p4_11 : xm_fq (11, 63, 11, 3, 0) := ⟨_, _, rfl, by decide, by decide, rfl, rfl, xg_of (i := 1558) rfl rfl⟩
set_option maxRecDepth 100000 in
theorem xFL_p4_12 : xm_fq (11, 66, 11, 6, 0) := ⟨_, _, rfl, by decide, by decide, rfl, rfl, xg_of (i := 1561) rfl rfl⟩
set_option maxRecDepth 100000 in
theorem xFL_p4_13 : xm_fq (11, 73, 11, 9, 0) := ⟨_, _, rfl, by decide, by decide, rfl, rfl, xg_of (i := 1564) rfl rfl⟩
set_option maxRecDepth 100000 in
theorem xFL_p4_14 : xm_fq (11, 76, 11, 11, 0) := ⟨_, _, rfl, by decide, by decide, rfl, rfl, xg_of (i := 1566) rfl rfl⟩
set_option maxRecDepth 100000 in
theorem xFL_p4_15 : xm_fq (11, 83, 11, 10, 0) := ⟨_, _, rfl, by decide, by decide, rfl, rfl, xg_of (i := 1565) rfl rfl⟩
set_option maxRecDepth 100000 in
theorem xFL_p4_16 : xm_fq (11, 86, 11, 16, 4) := ⟨_, _, rfl, by decide, by decide, rfl, rfl, xg_of (i := 1571) rfl rfl⟩
set_option maxRecDepth 100000 in
theorem xFL_p4_17 : xm_fq (11, 90, 11, 12, 0) := ⟨_, _, rfl, by decide, by decide, rfl, rfl, xg_of (i := 1567) rfl rfl⟩
set_option maxRecDepth 100000 in
theorem xFL_p4_18 : xm_fq (11, 104, 11, 13, 0) := ⟨_, _, rfl, by decide, by decide, rfl, rfl, xg_of (i := 1568) rfl rfl⟩
set_option maxRecDepth 100000 in
theorem xFL_p4_19 : xm_fq (11, 116, 11, 14, 0) := ⟨_, _, rfl, by decide, by decide, rfl, rfl, xg_of (i := 1569) rfl rfl⟩
set_option maxRecDepth 100000 in
theorem xFL_p4_20 : xm_fq (11, 119, 11, 15, 0) := ⟨_, _, rfl, by decide, by decide, rfl, rfl, xg_of (i := 1570) rfl rfl⟩
set_option maxRecDepth 100000 in
theorem xFL_p4_21 : xm_fq (11, 129, 11, 17, 0) := ⟨_, _, rfl, by decide, by decide, rfl, rfl, xg_of (i := 1572) rfl rfl⟩
set_option maxRecDepth 100000 in
theorem xFL_p4_22 : xm_fq (11, 165, 11, 23, 0) := ⟨_, _, rfl, by decide, by decide, rfl, rfl, xg_of (i := 1578) rfl rfl⟩
set_option maxRecDepth 100000 in
theorem xFL_p4_23 : xm_fq (11, 215, 11, 7, 0) := ⟨_, _, rfl, by decide, by decide, rfl, rfl, xg_of (i := 1562) rfl rfl⟩
set_option maxRecDepth 100000 in
theorem xFL_p4_24 : xm_fq (11, 252, 11, 27, 0) := ⟨_, _, rfl, by decide, by decide, rfl, rfl, xg_of (i := 1582) rfl rfl⟩
set_option maxRecDepth 100000 in
theorem xFL_p4_25 : xm_fq (11, 255, 11, 28, 0) := ⟨_, _, rfl, by decide, by decide, rfl, rfl, xg_of (i := 1583) rfl rfl⟩
set_option maxRecDepth 100000 in
theorem xFL_p4_26 : xm_fq (11, 374, 11, 30, 0) := ⟨_, _, rfl, by decide, by decide, rfl, rfl, xg_of (i := 1585) rfl rfl⟩
set_option maxRecDepth 100000 in
theorem xFL_p4_27 : xm_fq (12, 15, 13, 0, 6) := ⟨_, _, rfl, by decide, by decide, rfl, rfl, xg_of (i := 437) rfl rfl⟩
set_option maxRecDepth 100000 in
theorem xFL_p4_28 : xm_fq (12, 22, 13, 1, 2) := ⟨_, _, rfl, by decide, by decide, rfl, rfl, xg_of (i := 438) rfl rfl⟩
set_option maxRecDepth 100000 in
theorem xFL_p4_29 : xm_fq (12, 73, 13, 2, 1) := ⟨_, _, rfl, by decide, by decide, rfl, rfl, xg_of (i := 439) rfl rfl⟩
set_option maxRecDepth 100000 in
theorem xFL_p4_30 : xm_fq (12, 79, 13, 3, 0) := ⟨_, _, rfl, by decide, by decide, rfl, rfl, xg_of (i := 441) rfl rfl⟩
set_option maxRecDepth 100000 in
theorem xFL_p4_31 : xm_fq (16, 9, 12, 0, 6) := ⟨_, _, rfl, by decide, by decide, rfl, rfl, xg_of (i := 797) rfl rfl⟩
set_option maxRecDepth 100000 in
theorem xFL_p4_32 : xm_fq (16, 15, 12, 1, 2) := ⟨_, _, rfl, by decide, by decide, rfl, rfl, xg_of (i := 798) rfl rfl⟩
set_option maxRecDepth 100000 in
theorem xFL_p4_33 : xm_fq (16, 1048, 13, 2, 1) := ⟨_, _, rfl, by decide, by decide, rfl, rfl, xg_of (i := 440) rfl rfl⟩
def xFL_4 : List (Nat × Nat × Nat × Nat × Nat) := [(11, 22, 11, 8, 0), (11, 26, 11, 18, 6), (11, 29, 11, 19, 6), (11, 32, 11, 20, 6), (11, 36, 11, 21, 6), (11, 39, 11, 22, 6), (11, 42, 11, 24, 6), (11, 45, 11, 25, 6), (11, 48, 11, 26, 6), (11, 51, 11, 29, 6), (11, 60, 11, 4, 0), (11, 63, 11, 3, 0), (11, 66, 11, 6, 0), (11, 73, 11, 9, 0), (11, 76, 11, 11, 0), (11, 83, 11, 10, 0), (11, 86, 11, 16, 4), (11, 90, 11, 12, 0), (11, 104, 11, 13, 0), (11, 116, 11, 14, 0), (11, 119, 11, 15, 0), (11, 129, 11, 17, 0), (11, 165, 11, 23, 0), (11, 215, 11, 7, 0), (11, 252, 11, 27, 0), (11, 255, 11, 28, 0), (11, 374, 11, 30, 0), (12, 15, 13, 0, 6), (12, 22, 13, 1, 2), (12, 73, 13, 2, 1), (12, 79, 13, 3, 0), (16, 9, 12, 0, 6), (16, 15, 12, 1, 2), (16, 1048, 13, 2, 1)]
theorem xFL_ok4 : ∀ q ∈ xFL_4, xm_fq q := List.forall_mem_cons.mpr ⟨xFL_p4_0, List.forall_mem_cons.mpr ⟨xFL_p4_1, List.forall_mem_cons.mpr ⟨xFL_p4_2, List.forall_mem_cons.mpr ⟨xFL_p4_3, List.forall_mem_cons.mpr ⟨xFL_p4_4, List.forall_mem_cons.mpr ⟨xFL_p4_5, List.forall_mem_cons.mpr ⟨xFL_p4_6, List.forall_mem_cons.mpr ⟨xFL_p4_7, List.forall_mem_cons.mpr ⟨xFL_p4_8, List.forall_mem_cons.mpr ⟨xFL_p4_9, List.forall_mem_cons.mpr ⟨xFL_p4_10, List.forall_mem_cons.mpr ⟨xFL_p4_11, List.forall_mem_cons.mpr ⟨xFL_p4_12, List.forall_mem_cons.mpr ⟨xFL_p4_13, List.forall_mem_cons.mpr ⟨xFL_p4_14, List.forall_mem_cons.mpr ⟨xFL_p4_15, List.forall_mem_cons.mpr ⟨xFL_p4_16, List.forall_mem_cons.mpr ⟨xFL_p4_17, List.forall_mem_cons.mpr ⟨xFL_p4_18, List.forall_mem_cons.mpr ⟨xFL_p4_19, List.forall_mem_cons.mpr ⟨xFL_p4_20, List.forall_mem_cons.mpr ⟨xFL_p4_21, List.forall_mem_cons.mpr ⟨xFL_p4_22, List.forall_mem_cons.mpr ⟨xFL_p4_23, List.forall_mem_cons.mpr ⟨xFL_p4_24, List.forall_mem_cons.mpr ⟨xFL_p4_25, List.forall_mem_cons.mpr ⟨xFL_p4_26, List.forall_mem_cons.mpr ⟨xFL_p4_27, List.forall_mem_cons.mpr ⟨xFL_p4_28, List.forall_mem_cons.mpr ⟨xFL_p4_29, List.forall_mem_cons.mpr ⟨xFL_p4_30, List.forall_mem_cons.mpr ⟨xFL_p4_31, List.forall_mem_cons.mpr ⟨xFL_p4_32, List.forall_mem_cons.mpr ⟨xFL_p4_33, fun _ h => absurd h List.not_mem_nil⟩⟩⟩⟩⟩⟩⟩⟩⟩⟩⟩⟩⟩⟩⟩⟩⟩⟩⟩⟩⟩⟩⟩⟩⟩⟩⟩⟩⟩⟩⟩⟩⟩⟩
def xFL : List (Nat × Nat × Nat × Nat × Nat) := xFL_0 ++ (xFL_1 ++ (xFL_2 ++ (xFL_3 ++ (xFL_4))))
theorem xFL_ok : ∀ q ∈ xFL, xm_fq q := List.forall_mem_append.mpr ⟨xFL_ok0, List.forall_mem_append.mpr ⟨xFL_ok1, List.forall_mem_append.mpr ⟨xFL_ok2, List.forall_mem_append.mpr ⟨xFL_ok3, xFL_ok4⟩⟩⟩⟩
def xm_cq (q : Nat × Nat × String) : Prop := Cond.classLink (xon.getD q.1 "") q.2.1 q.2.2 ∈ xgd
set_option maxRecDepth 100000 in
theorem xCL_p0_0 : xm_cq (2, 9, "AdMarketplace$Rules") := xg_of (i := 229) rfl rfl
set_option maxRecDepth 100000 in
theorem xCL_p0_1 : xm_cq (2, 18, "AdMarketplace$Standing") := xg_of (i := 231) rfl rfl
set_option maxRecDepth 100000 in
theorem xCL_p0_2 : xm_cq (2, 29, "AdMarketplace$Impressions") := xg_of (i := 300) rfl rfl
set_option maxRecDepth 100000 in
theorem xCL_p0_3 : xm_cq (3, 9, "AdMarketplace$Standing") := xg_of (i := 405) rfl rfl
set_option maxRecDepth 100000 in
theorem xCL_p0_4 : xm_cq (5, 9, "AdMarketplace$Tokens") := xg_of (i := 46) rfl rfl
set_option maxRecDepth 100000 in
theorem xCL_p0_5 : xm_cq (5, 18, "AdMarketplace$Rules") := xg_of (i := 79) rfl rfl
set_option maxRecDepth 100000 in
theorem xCL_p0_6 : xm_cq (6, 15, "AdMarketplace$Tag") := xg_of (i := 85) rfl rfl
set_option maxRecDepth 100000 in
theorem xCL_p0_7 : xm_cq (6, 22, "AdMarketplace$Campaign") := xg_of (i := 104) rfl rfl
set_option maxRecDepth 100000 in
theorem xCL_p0_8 : xm_cq (9, 51, "java/lang/String") := xg_of (i := 758) rfl rfl
set_option maxRecDepth 100000 in
theorem xCL_p0_9 : xm_cq (10, 7, "AdMarketplace$Parser") := xg_of (i := 40) rfl rfl
set_option maxRecDepth 100000 in
theorem xCL_p0_10 : xm_cq (10, 16, "AdMarketplace$Exchange") := xg_of (i := 223) rfl rfl
set_option maxRecDepth 100000 in
theorem xCL_p0_11 : xm_cq (10, 23, "AdMarketplace$Standing") := xg_of (i := 372) rfl rfl
set_option maxRecDepth 100000 in
theorem xCL_p0_12 : xm_cq (10, 30, "AdMarketplace$Conversions") := xg_of (i := 374) rfl rfl
set_option maxRecDepth 100000 in
theorem xCL_p0_13 : xm_cq (10, 37, "AdMarketplace$History") := xg_of (i := 399) rfl rfl
set_option maxRecDepth 100000 in
theorem xCL_p0_14 : xm_cq (10, 44, "java/lang/StringBuilder") := xg_of (i := 419) rfl rfl
set_option maxRecDepth 100000 in
theorem xCL_p0_15 : xm_cq (10, 152, "java/lang/IllegalArgumentException") := xg_of (i := 556) rfl rfl
set_option maxRecDepth 100000 in
theorem xCL_p0_16 : xm_cq (10, 226, "java/lang/IllegalStateException") := xg_of (i := 1110) rfl rfl
set_option maxRecDepth 100000 in
theorem xCL_p0_17 : xm_cq (10, 284, "java/lang/IndexOutOfBoundsException") := xg_of (i := 858) rfl rfl
set_option maxRecDepth 100000 in
theorem xCL_p0_18 : xm_cq (13, 10, "java/lang/StringBuilder") := xg_of (i := 1480) rfl rfl
set_option maxRecDepth 100000 in
theorem xCL_p0_19 : xm_cq (17, 18, "java/lang/String") := xg_of (i := 1404) rfl rfl
set_option maxRecDepth 100000 in
theorem xCL_p0_20 : xm_cq (18, 10, "java/lang/StringBuilder") := xg_of (i := 1289) rfl rfl
set_option maxRecDepth 100000 in
theorem xCL_p0_21 : xm_cq (21, 45, "java/lang/StringBuilder") := xg_of (i := 1435) rfl rfl
set_option maxRecDepth 100000 in
theorem xCL_p0_22 : xm_cq (24, 8, "AdMarketplace") := xg_of (i := 32) rfl rfl
set_option maxRecDepth 100000 in
theorem xCL_p0_23 : xm_cq (24, 128, "AdMarketplaceModel") := xg_of (i := 1537) rfl rfl
def xCL_0 : List (Nat × Nat × String) := [(2, 9, "AdMarketplace$Rules"), (2, 18, "AdMarketplace$Standing"), (2, 29, "AdMarketplace$Impressions"), (3, 9, "AdMarketplace$Standing"), (5, 9, "AdMarketplace$Tokens"), (5, 18, "AdMarketplace$Rules"), (6, 15, "AdMarketplace$Tag"), (6, 22, "AdMarketplace$Campaign"), (9, 51, "java/lang/String"), (10, 7, "AdMarketplace$Parser"), (10, 16, "AdMarketplace$Exchange"), (10, 23, "AdMarketplace$Standing"), (10, 30, "AdMarketplace$Conversions"), (10, 37, "AdMarketplace$History"), (10, 44, "java/lang/StringBuilder"), (10, 152, "java/lang/IllegalArgumentException"), (10, 226, "java/lang/IllegalStateException"), (10, 284, "java/lang/IndexOutOfBoundsException"), (13, 10, "java/lang/StringBuilder"), (17, 18, "java/lang/String"), (18, 10, "java/lang/StringBuilder"), (21, 45, "java/lang/StringBuilder"), (24, 8, "AdMarketplace"), (24, 128, "AdMarketplaceModel")]
theorem xCL_ok0 : ∀ q ∈ xCL_0, xm_cq q := List.forall_mem_cons.mpr ⟨xCL_p0_0, List.forall_mem_cons.mpr ⟨xCL_p0_1, List.forall_mem_cons.mpr ⟨xCL_p0_2, List.forall_mem_cons.mpr ⟨xCL_p0_3, List.forall_mem_cons.mpr ⟨xCL_p0_4, List.forall_mem_cons.mpr ⟨xCL_p0_5, List.forall_mem_cons.mpr ⟨xCL_p0_6, List.forall_mem_cons.mpr ⟨xCL_p0_7, List.forall_mem_cons.mpr ⟨xCL_p0_8, List.forall_mem_cons.mpr ⟨xCL_p0_9, List.forall_mem_cons.mpr ⟨xCL_p0_10, List.forall_mem_cons.mpr ⟨xCL_p0_11, List.forall_mem_cons.mpr ⟨xCL_p0_12, List.forall_mem_cons.mpr ⟨xCL_p0_13, List.forall_mem_cons.mpr ⟨xCL_p0_14, List.forall_mem_cons.mpr ⟨xCL_p0_15, List.forall_mem_cons.mpr ⟨xCL_p0_16, List.forall_mem_cons.mpr ⟨xCL_p0_17, List.forall_mem_cons.mpr ⟨xCL_p0_18, List.forall_mem_cons.mpr ⟨xCL_p0_19, List.forall_mem_cons.mpr ⟨xCL_p0_20, List.forall_mem_cons.mpr ⟨xCL_p0_21, List.forall_mem_cons.mpr ⟨xCL_p0_22, List.forall_mem_cons.mpr ⟨xCL_p0_23, fun _ h => absurd h List.not_mem_nil⟩⟩⟩⟩⟩⟩⟩⟩⟩⟩⟩⟩⟩⟩⟩⟩⟩⟩⟩⟩⟩⟩⟩⟩
def xCL : List (Nat × Nat × String) := xCL_0
theorem xCL_ok : ∀ q ∈ xCL, xm_cq q := xCL_ok0
/-- a callee: number, parameters -/
set_option maxRecDepth 100000 in
theorem xc_0 : xm_cal xX 0 0 xM_X0_init := ⟨rfl, xg_of (i := 109) rfl rfl, xg_of (i := 6) rfl rfl, ⟨by decide, by decide⟩, rfl, by decide⟩
set_option maxRecDepth 100000 in
theorem xc_1 : xm_cal xX 1 0 xM_X1_init := ⟨rfl, xg_of (i := 378) rfl rfl, xg_of (i := 10) rfl rfl, ⟨by decide, by decide⟩, rfl, by decide⟩
set_option maxRecDepth 100000 in
theorem xc_2 : xm_cal xX 2 2 xM_X1_begin := ⟨rfl, xg_of (i := 1150) rfl rfl, xg_of (i := 10) rfl rfl, ⟨by decide, by decide⟩, rfl, by decide⟩
set_option maxRecDepth 100000 in
theorem xc_3 : xm_cal xX 3 2 xM_X1_share := ⟨rfl, xg_of (i := 1158) rfl rfl, xg_of (i := 10) rfl rfl, ⟨by decide, by decide⟩, rfl, by decide⟩
set_option maxRecDepth 100000 in
theorem xc_4 : xm_cal xX 4 3 xM_X1_creditOf := ⟨rfl, xg_of (i := 1268) rfl rfl, xg_of (i := 10) rfl rfl, ⟨by decide, by decide⟩, rfl, by decide⟩
set_option maxRecDepth 100000 in
theorem xc_5 : xm_cal xX 5 0 xM_X2_init := ⟨rfl, xg_of (i := 227) rfl rfl, xg_of (i := 7) rfl rfl, ⟨by decide, by decide⟩, rfl, by decide⟩
set_option maxRecDepth 100000 in
theorem xc_6 : xm_cal xX 6 1 xM_X2_open := ⟨rfl, xg_of (i := 841) rfl rfl, xg_of (i := 7) rfl rfl, ⟨by decide, by decide⟩, rfl, by decide⟩
set_option maxRecDepth 100000 in
theorem xc_7 : xm_cal xX 7 1 xM_X2_pacedBid := ⟨rfl, xg_of (i := 896) rfl rfl, xg_of (i := 7) rfl rfl, ⟨by decide, by decide⟩, rfl, by decide⟩
set_option maxRecDepth 100000 in
theorem xc_8 : xm_cal xX 8 2 xM_X2_perCent := ⟨rfl, xg_of (i := 899) rfl rfl, xg_of (i := 7) rfl rfl, ⟨by decide, by decide⟩, rfl, by decide⟩
set_option maxRecDepth 100000 in
theorem xc_9 : xm_cal xX 9 1 xM_X2_planned := ⟨rfl, xg_of (i := 931) rfl rfl, xg_of (i := 7) rfl rfl, ⟨by decide, by decide⟩, rfl, by decide⟩
set_option maxRecDepth 100000 in
theorem xc_10 : xm_cal xX 10 1 xM_X2_moneyLeft := ⟨rfl, xg_of (i := 960) rfl rfl, xg_of (i := 7) rfl rfl, ⟨by decide, by decide⟩, rfl, by decide⟩
set_option maxRecDepth 100000 in
theorem xc_11 : xm_cal xX 11 0 xM_X2_passTick := ⟨rfl, xg_of (i := 1073) rfl rfl, xg_of (i := 7) rfl rfl, ⟨by decide, by decide⟩, rfl, by decide⟩
set_option maxRecDepth 100000 in
theorem xc_12 : xm_cal xX 12 1 xM_X2_control := ⟨rfl, xg_of (i := 1077) rfl rfl, xg_of (i := 7) rfl rfl, ⟨by decide, by decide⟩, rfl, by decide⟩
set_option maxRecDepth 100000 in
theorem xc_13 : xm_cal xX 13 1 xM_X2_countRecents := ⟨rfl, xg_of (i := 952) rfl rfl, xg_of (i := 7) rfl rfl, ⟨by decide, by decide⟩, rfl, by decide⟩
set_option maxRecDepth 100000 in
theorem xc_14 : xm_cal xX 14 4 xM_X2_reasonAgainst := ⟨rfl, xg_of (i := 956) rfl rfl, xg_of (i := 7) rfl rfl, ⟨by decide, by decide⟩, rfl, by decide⟩
set_option maxRecDepth 100000 in
theorem xc_15 : xm_cal xX 15 3 xM_X2_rank := ⟨rfl, xg_of (i := 973) rfl rfl, xg_of (i := 7) rfl rfl, ⟨by decide, by decide⟩, rfl, by decide⟩
set_option maxRecDepth 100000 in
theorem xc_16 : xm_cal xX 16 1 xM_X2_insert := ⟨rfl, xg_of (i := 980) rfl rfl, xg_of (i := 7) rfl rfl, ⟨by decide, by decide⟩, rfl, by decide⟩
set_option maxRecDepth 100000 in
theorem xc_17 : xm_cal xX 17 2 xM_X2_fill := ⟨rfl, xg_of (i := 995) rfl rfl, xg_of (i := 7) rfl rfl, ⟨by decide, by decide⟩, rfl, by decide⟩
set_option maxRecDepth 100000 in
theorem xc_18 : xm_cal xX 18 2 xM_X2_basePrice := ⟨rfl, xg_of (i := 999) rfl rfl, xg_of (i := 7) rfl rfl, ⟨by decide, by decide⟩, rfl, by decide⟩
set_option maxRecDepth 100000 in
theorem xc_19 : xm_cal xX 19 3 xM_X2_serve := ⟨rfl, xg_of (i := 1065) rfl rfl, xg_of (i := 7) rfl rfl, ⟨by decide, by decide⟩, rfl, by decide⟩
set_option maxRecDepth 100000 in
theorem xc_20 : xm_cal xX 20 2 xM_X2_record := ⟨rfl, xg_of (i := 1069) rfl rfl, xg_of (i := 7) rfl rfl, ⟨by decide, by decide⟩, rfl, by decide⟩
set_option maxRecDepth 100000 in
theorem xc_21 : xm_cal xX 21 4 xM_X2_leastWinningBid := ⟨rfl, xg_of (i := 1024) rfl rfl, xg_of (i := 7) rfl rfl, ⟨by decide, by decide⟩, rfl, by decide⟩
set_option maxRecDepth 100000 in
theorem xc_22 : xm_cal xX 22 2 xM_X2_leastPacedBid := ⟨rfl, xg_of (i := 1029) rfl rfl, xg_of (i := 7) rfl rfl, ⟨by decide, by decide⟩, rfl, by decide⟩
set_option maxRecDepth 100000 in
theorem xc_23 : xm_cal xX 23 3 xM_X2_mostEarningFloor := ⟨rfl, xg_of (i := 1040) rfl rfl, xg_of (i := 7) rfl rfl, ⟨by decide, by decide⟩, rfl, by decide⟩
set_option maxRecDepth 100000 in
theorem xc_24 : xm_cal xX 24 3 xM_X2_leastFloorEarning := ⟨rfl, xg_of (i := 1049) rfl rfl, xg_of (i := 7) rfl rfl, ⟨by decide, by decide⟩, rfl, by decide⟩
set_option maxRecDepth 100000 in
theorem xc_25 : xm_cal xX 25 2 xM_X2_earningsAt := ⟨rfl, xg_of (i := 1044) rfl rfl, xg_of (i := 7) rfl rfl, ⟨by decide, by decide⟩, rfl, by decide⟩
set_option maxRecDepth 100000 in
theorem xc_26 : xm_cal xX 26 0 xM_X3_init := ⟨rfl, xg_of (i := 403) rfl rfl, xg_of (i := 11) rfl rfl, ⟨by decide, by decide⟩, rfl, by decide⟩
set_option maxRecDepth 100000 in
theorem xc_27 : xm_cal xX 27 1 xM_X3_remember := ⟨rfl, xg_of (i := 1129) rfl rfl, xg_of (i := 11) rfl rfl, ⟨by decide, by decide⟩, rfl, by decide⟩
set_option maxRecDepth 100000 in
theorem xc_28 : xm_cal xX 28 1 xM_X3_restore := ⟨rfl, xg_of (i := 509) rfl rfl, xg_of (i := 11) rfl rfl, ⟨by decide, by decide⟩, rfl, by decide⟩
set_option maxRecDepth 100000 in
theorem xc_29 : xm_cal xX 29 0 xM_X3_forget := ⟨rfl, xg_of (i := 845) rfl rfl, xg_of (i := 11) rfl rfl, ⟨by decide, by decide⟩, rfl, by decide⟩
set_option maxRecDepth 100000 in
theorem xc_30 : xm_cal xX 30 0 xM_X4_init := ⟨rfl, xg_of (i := 304) rfl rfl, xg_of (i := 9) rfl rfl, ⟨by decide, by decide⟩, rfl, by decide⟩
set_option maxRecDepth 100000 in
theorem xc_31 : xm_cal xX 31 2 xM_X4_part := ⟨rfl, xg_of (i := 1216) rfl rfl, xg_of (i := 9) rfl rfl, ⟨by decide, by decide⟩, rfl, by decide⟩
set_option maxRecDepth 100000 in
theorem xc_32 : xm_cal xX 32 2 xM_X4_priceSum := ⟨rfl, xg_of (i := 528) rfl rfl, xg_of (i := 9) rfl rfl, ⟨by decide, by decide⟩, rfl, by decide⟩
set_option maxRecDepth 100000 in
theorem xc_33 : xm_cal xX 33 3 xM_X4_countOf := ⟨rfl, xg_of (i := 1101) rfl rfl, xg_of (i := 9) rfl rfl, ⟨by decide, by decide⟩, rfl, by decide⟩
set_option maxRecDepth 100000 in
theorem xc_34 : xm_cal xX 34 2 xM_X4_countTo := ⟨rfl, xg_of (i := 536) rfl rfl, xg_of (i := 9) rfl rfl, ⟨by decide, by decide⟩, rfl, by decide⟩
set_option maxRecDepth 100000 in
theorem xc_35 : xm_cal xX 35 2 xM_X4_usersReached := ⟨rfl, xg_of (i := 1227) rfl rfl, xg_of (i := 9) rfl rfl, ⟨by decide, by decide⟩, rfl, by decide⟩
set_option maxRecDepth 100000 in
theorem xc_36 : xm_cal xX 36 0 xM_X5_init := ⟨rfl, xg_of (i := 44) rfl rfl, xg_of (i := 2) rfl rfl, ⟨by decide, by decide⟩, rfl, by decide⟩
set_option maxRecDepth 100000 in
theorem xc_37 : xm_cal xX 37 1 xM_X5_read := ⟨rfl, xg_of (i := 628) rfl rfl, xg_of (i := 2) rfl rfl, ⟨by decide, by decide⟩, rfl, by decide⟩
set_option maxRecDepth 100000 in
theorem xc_38 : xm_cal xX 38 0 xM_X5_statement := ⟨rfl, xg_of (i := 652) rfl rfl, xg_of (i := 2) rfl rfl, ⟨by decide, by decide⟩, rfl, by decide⟩
set_option maxRecDepth 100000 in
theorem xc_39 : xm_cal xX 39 0 xM_X5_day := ⟨rfl, xg_of (i := 708) rfl rfl, xg_of (i := 2) rfl rfl, ⟨by decide, by decide⟩, rfl, by decide⟩
set_option maxRecDepth 100000 in
theorem xc_40 : xm_cal xX 40 0 xM_X5_attribution := ⟨rfl, xg_of (i := 734) rfl rfl, xg_of (i := 2) rfl rfl, ⟨by decide, by decide⟩, rfl, by decide⟩
set_option maxRecDepth 100000 in
theorem xc_41 : xm_cal xX 41 0 xM_X5_factors := ⟨rfl, xg_of (i := 739) rfl rfl, xg_of (i := 2) rfl rfl, ⟨by decide, by decide⟩, rfl, by decide⟩
set_option maxRecDepth 100000 in
theorem xc_42 : xm_cal xX 42 0 xM_X5_newTag := ⟨rfl, xg_of (i := 744) rfl rfl, xg_of (i := 2) rfl rfl, ⟨by decide, by decide⟩, rfl, by decide⟩
set_option maxRecDepth 100000 in
theorem xc_43 : xm_cal xX 43 0 xM_X5_newCampaign := ⟨rfl, xg_of (i := 812) rfl rfl, xg_of (i := 2) rfl rfl, ⟨by decide, by decide⟩, rfl, by decide⟩
set_option maxRecDepth 100000 in
theorem xc_44 : xm_cal xX 44 0 xM_X5_takeTarget := ⟨rfl, xg_of (i := 820) rfl rfl, xg_of (i := 2) rfl rfl, ⟨by decide, by decide⟩, rfl, by decide⟩
set_option maxRecDepth 100000 in
theorem xc_45 : xm_cal xX 45 0 xM_X5_pace := ⟨rfl, xg_of (i := 825) rfl rfl, xg_of (i := 2) rfl rfl, ⟨by decide, by decide⟩, rfl, by decide⟩
set_option maxRecDepth 100000 in
theorem xc_46 : xm_cal xX 46 0 xM_X5_apart := ⟨rfl, xg_of (i := 837) rfl rfl, xg_of (i := 2) rfl rfl, ⟨by decide, by decide⟩, rfl, by decide⟩
set_option maxRecDepth 100000 in
theorem xc_47 : xm_cal xX 47 1 xM_X5_isNewName := ⟨rfl, xg_of (i := 752) rfl rfl, xg_of (i := 2) rfl rfl, ⟨by decide, by decide⟩, rfl, by decide⟩
set_option maxRecDepth 100000 in
theorem xc_48 : xm_cal xX 48 0 xM_X5_isCampaign := ⟨rfl, xg_of (i := 829) rfl rfl, xg_of (i := 2) rfl rfl, ⟨by decide, by decide⟩, rfl, by decide⟩
set_option maxRecDepth 100000 in
theorem xc_49 : xm_cal xX 49 0 xM_X5_findTag := ⟨rfl, xg_of (i := 748) rfl rfl, xg_of (i := 2) rfl rfl, ⟨by decide, by decide⟩, rfl, by decide⟩
set_option maxRecDepth 100000 in
theorem xc_50 : xm_cal xX 50 0 xM_X5_findCampaign := ⟨rfl, xg_of (i := 816) rfl rfl, xg_of (i := 2) rfl rfl, ⟨by decide, by decide⟩, rfl, by decide⟩
set_option maxRecDepth 100000 in
theorem xc_51 : xm_cal xX 51 2 xM_X5_takeNumber := ⟨rfl, xg_of (i := 713) rfl rfl, xg_of (i := 2) rfl rfl, ⟨by decide, by decide⟩, rfl, by decide⟩
set_option maxRecDepth 100000 in
theorem xc_52 : xm_cal xX 52 2 xM_X5_isWithin := ⟨rfl, xg_of (i := 725) rfl rfl, xg_of (i := 2) rfl rfl, ⟨by decide, by decide⟩, rfl, by decide⟩
set_option maxRecDepth 100000 in
theorem xc_53 : xm_cal xX 53 0 xM_X5_takeSemicolon := ⟨rfl, xg_of (i := 729) rfl rfl, xg_of (i := 2) rfl rfl, ⟨by decide, by decide⟩, rfl, by decide⟩
set_option maxRecDepth 100000 in
theorem xc_54 : xm_cal xX 54 0 xM_X5_unexpected := ⟨rfl, xg_of (i := 717) rfl rfl, xg_of (i := 2) rfl rfl, ⟨by decide, by decide⟩, rfl, by decide⟩
set_option maxRecDepth 100000 in
theorem xc_55 : xm_cal xX 55 1 xM_X5_fail := ⟨rfl, xg_of (i := 721) rfl rfl, xg_of (i := 2) rfl rfl, ⟨by decide, by decide⟩, rfl, by decide⟩
set_option maxRecDepth 100000 in
theorem xc_56 : xm_cal xX 56 0 xM_X6_init := ⟨rfl, xg_of (i := 83) rfl rfl, xg_of (i := 4) rfl rfl, ⟨by decide, by decide⟩, rfl, by decide⟩
set_option maxRecDepth 100000 in
theorem xc_57 : xm_cal xX 57 0 xM_X6_clear := ⟨rfl, xg_of (i := 149) rfl rfl, xg_of (i := 4) rfl rfl, ⟨by decide, by decide⟩, rfl, by decide⟩
set_option maxRecDepth 100000 in
theorem xc_58 : xm_cal xX 58 0 xM_X7_init := ⟨rfl, xg_of (i := 235) rfl rfl, xg_of (i := 8) rfl rfl, ⟨by decide, by decide⟩, rfl, by decide⟩
set_option maxRecDepth 100000 in
theorem xc_59 : xm_cal xX 59 1 xM_X7_begin := ⟨rfl, xg_of (i := 295) rfl rfl, xg_of (i := 8) rfl rfl, ⟨by decide, by decide⟩, rfl, by decide⟩
set_option maxRecDepth 100000 in
theorem xc_60 : xm_cal xX 60 0 xM_X7_beginDay := ⟨rfl, xg_of (i := 299) rfl rfl, xg_of (i := 8) rfl rfl, ⟨by decide, by decide⟩, rfl, by decide⟩
set_option maxRecDepth 100000 in
theorem xc_61 : xm_cal xX 61 2 xM_X7_changeMode := ⟨rfl, xg_of (i := 1097) rfl rfl, xg_of (i := 8) rfl rfl, ⟨by decide, by decide⟩, rfl, by decide⟩
set_option maxRecDepth 100000 in
theorem xc_62 : xm_cal xX 62 1 xM_X7_copy := ⟨rfl, xg_of (i := 513) rfl rfl, xg_of (i := 8) rfl rfl, ⟨by decide, by decide⟩, rfl, by decide⟩
set_option maxRecDepth 100000 in
theorem xc_63 : xm_cal xX 63 0 xM_X8_init := ⟨rfl, xg_of (i := 90) rfl rfl, xg_of (i := 5) rfl rfl, ⟨by decide, by decide⟩, rfl, by decide⟩
set_option maxRecDepth 100000 in
theorem xc_64 : xm_cal xX 64 0 xM_X9_init := ⟨rfl, xg_of (i := 50) rfl rfl, xg_of (i := 3) rfl rfl, ⟨by decide, by decide⟩, rfl, by decide⟩
set_option maxRecDepth 100000 in
theorem xc_65 : xm_cal xX 65 1 xM_X9_append := ⟨rfl, xg_of (i := 477) rfl rfl, xg_of (i := 3) rfl rfl, ⟨by decide, by decide⟩, rfl, by decide⟩
set_option maxRecDepth 100000 in
theorem xc_66 : xm_cal xX 66 1 xM_X9_begin := ⟨rfl, xg_of (i := 633) rfl rfl, xg_of (i := 3) rfl rfl, ⟨by decide, by decide⟩, rfl, by decide⟩
set_option maxRecDepth 100000 in
theorem xc_67 : xm_cal xX 67 0 xM_X9_advance := ⟨rfl, xg_of (i := 640) rfl rfl, xg_of (i := 3) rfl rfl, ⟨by decide, by decide⟩, rfl, by decide⟩
set_option maxRecDepth 100000 in
theorem xc_68 : xm_cal xX 68 2 xM_X9_runEnd := ⟨rfl, xg_of (i := 644) rfl rfl, xg_of (i := 3) rfl rfl, ⟨by decide, by decide⟩, rfl, by decide⟩
set_option maxRecDepth 100000 in
theorem xc_69 : xm_cal xX 69 0 xM_X9_evaluate := ⟨rfl, xg_of (i := 648) rfl rfl, xg_of (i := 3) rfl rfl, ⟨by decide, by decide⟩, rfl, by decide⟩
set_option maxRecDepth 100000 in
theorem xc_70 : xm_cal xX 70 1 xM_X9_spells := ⟨rfl, xg_of (i := 657) rfl rfl, xg_of (i := 3) rfl rfl, ⟨by decide, by decide⟩, rfl, by decide⟩
set_option maxRecDepth 100000 in
theorem xc_71 : xm_cal xX 71 0 xM_X9_letters := ⟨rfl, xg_of (i := 757) rfl rfl, xg_of (i := 3) rfl rfl, ⟨by decide, by decide⟩, rfl, by decide⟩
set_option maxRecDepth 100000 in
theorem xc_72 : xm_cal xX 72 0 xM_X10_init := ⟨rfl, xg_of (i := 36) rfl rfl, xg_of (i := 1) rfl rfl, ⟨by decide, by decide⟩, rfl, by decide⟩
set_option maxRecDepth 100000 in
theorem xc_73 : xm_cal xX 73 5 xM_X10_feed := ⟨rfl, xg_of (i := 473) rfl rfl, xg_of (i := 1) rfl rfl, ⟨by decide, by decide⟩, rfl, by decide⟩
set_option maxRecDepth 100000 in
theorem xc_74 : xm_cal xX 74 1 xM_X10_load := ⟨rfl, xg_of (i := 552) rfl rfl, xg_of (i := 1) rfl rfl, ⟨by decide, by decide⟩, rfl, by decide⟩
set_option maxRecDepth 100000 in
theorem xc_75 : xm_cal xX 75 0 xM_X10_errorKind := ⟨rfl, xg_of (i := 481) rfl rfl, xg_of (i := 1) rfl rfl, ⟨by decide, by decide⟩, rfl, by decide⟩
set_option maxRecDepth 100000 in
theorem xc_76 : xm_cal xX 76 0 xM_X10_errorPosition := ⟨rfl, xg_of (i := 485) rfl rfl, xg_of (i := 1) rfl rfl, ⟨by decide, by decide⟩, rfl, by decide⟩
set_option maxRecDepth 100000 in
theorem xc_77 : xm_cal xX 77 0 xM_X10_campaigns := ⟨rfl, xg_of (i := 489) rfl rfl, xg_of (i := 1) rfl rfl, ⟨by decide, by decide⟩, rfl, by decide⟩
set_option maxRecDepth 100000 in
theorem xc_78 : xm_cal xX 78 0 xM_X10_tags := ⟨rfl, xg_of (i := 493) rfl rfl, xg_of (i := 1) rfl rfl, ⟨by decide, by decide⟩, rfl, by decide⟩
set_option maxRecDepth 100000 in
theorem xc_79 : xm_cal xX 79 0 xM_X10_slots := ⟨rfl, xg_of (i := 497) rfl rfl, xg_of (i := 1) rfl rfl, ⟨by decide, by decide⟩, rfl, by decide⟩
set_option maxRecDepth 100000 in
theorem xc_80 : xm_cal xX 80 1 xM_X10_floor := ⟨rfl, xg_of (i := 853) rfl rfl, xg_of (i := 1) rfl rfl, ⟨by decide, by decide⟩, rfl, by decide⟩
set_option maxRecDepth 100000 in
theorem xc_81 : xm_cal xX 81 1 xM_X10_bid := ⟨rfl, xg_of (i := 880) rfl rfl, xg_of (i := 1) rfl rfl, ⟨by decide, by decide⟩, rfl, by decide⟩
set_option maxRecDepth 100000 in
theorem xc_82 : xm_cal xX 82 1 xM_X10_effectiveBid := ⟨rfl, xg_of (i := 892) rfl rfl, xg_of (i := 1) rfl rfl, ⟨by decide, by decide⟩, rfl, by decide⟩
set_option maxRecDepth 100000 in
theorem xc_83 : xm_cal xX 83 1 xM_X10_multiplier := ⟨rfl, xg_of (i := 906) rfl rfl, xg_of (i := 1) rfl rfl, ⟨by decide, by decide⟩, rfl, by decide⟩
set_option maxRecDepth 100000 in
theorem xc_84 : xm_cal xX 84 1 xM_X10_budget := ⟨rfl, xg_of (i := 913) rfl rfl, xg_of (i := 1) rfl rfl, ⟨by decide, by decide⟩, rfl, by decide⟩
set_option maxRecDepth 100000 in
theorem xc_85 : xm_cal xX 85 1 xM_X10_spent := ⟨rfl, xg_of (i := 920) rfl rfl, xg_of (i := 1) rfl rfl, ⟨by decide, by decide⟩, rfl, by decide⟩
set_option maxRecDepth 100000 in
theorem xc_86 : xm_cal xX 86 1 xM_X10_plan := ⟨rfl, xg_of (i := 927) rfl rfl, xg_of (i := 1) rfl rfl, ⟨by decide, by decide⟩, rfl, by decide⟩
set_option maxRecDepth 100000 in
theorem xc_87 : xm_cal xX 87 1 xM_X10_mode := ⟨rfl, xg_of (i := 938) rfl rfl, xg_of (i := 1) rfl rfl, ⟨by decide, by decide⟩, rfl, by decide⟩
set_option maxRecDepth 100000 in
theorem xc_88 : xm_cal xX 88 0 xM_X10_tick := ⟨rfl, xg_of (i := 501) rfl rfl, xg_of (i := 1) rfl rfl, ⟨by decide, by decide⟩, rfl, by decide⟩
set_option maxRecDepth 100000 in
theorem xc_89 : xm_cal xX 89 3 xM_X10_refusal := ⟨rfl, xg_of (i := 945) rfl rfl, xg_of (i := 1) rfl rfl, ⟨by decide, by decide⟩, rfl, by decide⟩
set_option maxRecDepth 100000 in
theorem xc_90 : xm_cal xX 90 3 xM_X10_ranked := ⟨rfl, xg_of (i := 968) rfl rfl, xg_of (i := 1) rfl rfl, ⟨by decide, by decide⟩, rfl, by decide⟩
set_option maxRecDepth 100000 in
theorem xc_91 : xm_cal xX 91 3 xM_X10_winner := ⟨rfl, xg_of (i := 987) rfl rfl, xg_of (i := 1) rfl rfl, ⟨by decide, by decide⟩, rfl, by decide⟩
set_option maxRecDepth 100000 in
theorem xc_92 : xm_cal xX 92 3 xM_X10_price := ⟨rfl, xg_of (i := 1009) rfl rfl, xg_of (i := 1) rfl rfl, ⟨by decide, by decide⟩, rfl, by decide⟩
set_option maxRecDepth 100000 in
theorem xc_93 : xm_cal xX 93 4 xM_X10_leastBid := ⟨rfl, xg_of (i := 1016) rfl rfl, xg_of (i := 1) rfl rfl, ⟨by decide, by decide⟩, rfl, by decide⟩
set_option maxRecDepth 100000 in
theorem xc_94 : xm_cal xX 94 3 xM_X10_bestFloor := ⟨rfl, xg_of (i := 1036) rfl rfl, xg_of (i := 1) rfl rfl, ⟨by decide, by decide⟩, rfl, by decide⟩
set_option maxRecDepth 100000 in
theorem xc_95 : xm_cal xX 95 3 xM_X10_revenueAfter := ⟨rfl, xg_of (i := 1056) rfl rfl, xg_of (i := 1) rfl rfl, ⟨by decide, by decide⟩, rfl, by decide⟩
set_option maxRecDepth 100000 in
theorem xc_96 : xm_cal xX 96 4 xM_X10_multiplierAfter := ⟨rfl, xg_of (i := 1086) rfl rfl, xg_of (i := 1) rfl rfl, ⟨by decide, by decide⟩, rfl, by decide⟩
set_option maxRecDepth 100000 in
theorem xc_97 : xm_cal xX 97 4 xM_X10_bestMode := ⟨rfl, xg_of (i := 1093) rfl rfl, xg_of (i := 1) rfl rfl, ⟨by decide, by decide⟩, rfl, by decide⟩
set_option maxRecDepth 100000 in
theorem xc_98 : xm_cal xX 98 3 xM_X10_tryAhead := ⟨rfl, xg_of (i := 1061) rfl rfl, xg_of (i := 1) rfl rfl, ⟨by decide, by decide⟩, rfl, by decide⟩
set_option maxRecDepth 100000 in
theorem xc_99 : xm_cal xX 99 3 xM_X10_request := ⟨rfl, xg_of (i := 1109) rfl rfl, xg_of (i := 1) rfl rfl, ⟨by decide, by decide⟩, rfl, by decide⟩
set_option maxRecDepth 100000 in
theorem xc_100 : xm_cal xX 100 1 xM_X10_pass := ⟨rfl, xg_of (i := 1137) rfl rfl, xg_of (i := 1) rfl rfl, ⟨by decide, by decide⟩, rfl, by decide⟩
set_option maxRecDepth 100000 in
theorem xc_101 : xm_cal xX 101 2 xM_X10_convert := ⟨rfl, xg_of (i := 1145) rfl rfl, xg_of (i := 1) rfl rfl, ⟨by decide, by decide⟩, rfl, by decide⟩
set_option maxRecDepth 100000 in
theorem xc_102 : xm_cal xX 102 2 xM_X10_attribute := ⟨rfl, xg_of (i := 1154) rfl rfl, xg_of (i := 1) rfl rfl, ⟨by decide, by decide⟩, rfl, by decide⟩
set_option maxRecDepth 100000 in
theorem xc_103 : xm_cal xX 103 1 xM_X10_pause := ⟨rfl, xg_of (i := 1165) rfl rfl, xg_of (i := 1) rfl rfl, ⟨by decide, by decide⟩, rfl, by decide⟩
set_option maxRecDepth 100000 in
theorem xc_104 : xm_cal xX 104 1 xM_X10_resume := ⟨rfl, xg_of (i := 1174) rfl rfl, xg_of (i := 1) rfl rfl, ⟨by decide, by decide⟩, rfl, by decide⟩
set_option maxRecDepth 100000 in
theorem xc_105 : xm_cal xX 105 2 xM_X10_setBid := ⟨rfl, xg_of (i := 1182) rfl rfl, xg_of (i := 1) rfl rfl, ⟨by decide, by decide⟩, rfl, by decide⟩
set_option maxRecDepth 100000 in
theorem xc_106 : xm_cal xX 106 2 xM_X10_setBudget := ⟨rfl, xg_of (i := 1189) rfl rfl, xg_of (i := 1) rfl rfl, ⟨by decide, by decide⟩, rfl, by decide⟩
set_option maxRecDepth 100000 in
theorem xc_107 : xm_cal xX 107 2 xM_X10_setMode := ⟨rfl, xg_of (i := 1197) rfl rfl, xg_of (i := 1) rfl rfl, ⟨by decide, by decide⟩, rfl, by decide⟩
set_option maxRecDepth 100000 in
theorem xc_108 : xm_cal xX 108 2 xM_X10_setFloor := ⟨rfl, xg_of (i := 1204) rfl rfl, xg_of (i := 1) rfl rfl, ⟨by decide, by decide⟩, rfl, by decide⟩
set_option maxRecDepth 100000 in
theorem xc_109 : xm_cal xX 109 0 xM_X10_undo := ⟨rfl, xg_of (i := 505) rfl rfl, xg_of (i := 1) rfl rfl, ⟨by decide, by decide⟩, rfl, by decide⟩
set_option maxRecDepth 100000 in
theorem xc_110 : xm_cal xX 110 0 xM_X10_impressions := ⟨rfl, xg_of (i := 520) rfl rfl, xg_of (i := 1) rfl rfl, ⟨by decide, by decide⟩, rfl, by decide⟩
set_option maxRecDepth 100000 in
theorem xc_111 : xm_cal xX 111 2 xM_X10_impression := ⟨rfl, xg_of (i := 1211) rfl rfl, xg_of (i := 1) rfl rfl, ⟨by decide, by decide⟩, rfl, by decide⟩
set_option maxRecDepth 100000 in
theorem xc_112 : xm_cal xX 112 0 xM_X10_revenue := ⟨rfl, xg_of (i := 524) rfl rfl, xg_of (i := 1) rfl rfl, ⟨by decide, by decide⟩, rfl, by decide⟩
set_option maxRecDepth 100000 in
theorem xc_113 : xm_cal xX 113 1 xM_X10_reach := ⟨rfl, xg_of (i := 1223) rfl rfl, xg_of (i := 1) rfl rfl, ⟨by decide, by decide⟩, rfl, by decide⟩
set_option maxRecDepth 100000 in
theorem xc_114 : xm_cal xX 114 1 xM_X10_frequency := ⟨rfl, xg_of (i := 1240) rfl rfl, xg_of (i := 1) rfl rfl, ⟨by decide, by decide⟩, rfl, by decide⟩
set_option maxRecDepth 100000 in
theorem xc_115 : xm_cal xX 115 2 xM_X10_recent := ⟨rfl, xg_of (i := 1250) rfl rfl, xg_of (i := 1) rfl rfl, ⟨by decide, by decide⟩, rfl, by decide⟩
set_option maxRecDepth 100000 in
theorem xc_116 : xm_cal xX 116 0 xM_X10_topUser := ⟨rfl, xg_of (i := 532) rfl rfl, xg_of (i := 1) rfl rfl, ⟨by decide, by decide⟩, rfl, by decide⟩
set_option maxRecDepth 100000 in
theorem xc_117 : xm_cal xX 117 1 xM_X10_meanPrice := ⟨rfl, xg_of (i := 1257) rfl rfl, xg_of (i := 1) rfl rfl, ⟨by decide, by decide⟩, rfl, by decide⟩
set_option maxRecDepth 100000 in
theorem xc_118 : xm_cal xX 118 0 xM_X10_conversions := ⟨rfl, xg_of (i := 540) rfl rfl, xg_of (i := 1) rfl rfl, ⟨by decide, by decide⟩, rfl, by decide⟩
set_option maxRecDepth 100000 in
theorem xc_119 : xm_cal xX 119 2 xM_X10_credit := ⟨rfl, xg_of (i := 1264) rfl rfl, xg_of (i := 1) rfl rfl, ⟨by decide, by decide⟩, rfl, by decide⟩
set_option maxRecDepth 100000 in
theorem xc_120 : xm_cal xX 120 0 xM_X10_unattributed := ⟨rfl, xg_of (i := 544) rfl rfl, xg_of (i := 1) rfl rfl, ⟨by decide, by decide⟩, rfl, by decide⟩
set_option maxRecDepth 100000 in
theorem xc_121 : xm_cal xX 121 1 xM_X10_write := ⟨rfl, xg_of (i := 1276) rfl rfl, xg_of (i := 1) rfl rfl, ⟨by decide, by decide⟩, rfl, by decide⟩
set_option maxRecDepth 100000 in
theorem xc_122 : xm_cal xX 122 1 xM_X10_written := ⟨rfl, xg_of (i := 1525) rfl rfl, xg_of (i := 1) rfl rfl, ⟨by decide, by decide⟩, rfl, by decide⟩
set_option maxRecDepth 100000 in
theorem xc_123 : xm_cal xX 123 1 xM_X10_modeWord := ⟨rfl, xg_of (i := 1509) rfl rfl, xg_of (i := 1) rfl rfl, ⟨by decide, by decide⟩, rfl, by decide⟩
set_option maxRecDepth 100000 in
theorem xc_124 : xm_cal xX 124 2 xM_X10_quotient := ⟨rfl, xg_of (i := 1243) rfl rfl, xg_of (i := 1) rfl rfl, ⟨by decide, by decide⟩, rfl, by decide⟩
set_option maxRecDepth 100000 in
theorem xc_125 : xm_cal xX 125 1 xM_X10_requireCampaign := ⟨rfl, xg_of (i := 884) rfl rfl, xg_of (i := 1) rfl rfl, ⟨by decide, by decide⟩, rfl, by decide⟩
set_option maxRecDepth 100000 in
theorem xc_126 : xm_cal xX 126 1 xM_X10_requireTag := ⟨rfl, xg_of (i := 857) rfl rfl, xg_of (i := 1) rfl rfl, ⟨by decide, by decide⟩, rfl, by decide⟩
set_option maxRecDepth 100000 in
theorem xc_127 : xm_cal xX 127 1 xM_X10_requireSlot := ⟨rfl, xg_of (i := 991) rfl rfl, xg_of (i := 1) rfl rfl, ⟨by decide, by decide⟩, rfl, by decide⟩
set_option maxRecDepth 100000 in
theorem xc_128 : xm_cal xX 128 1 xM_X10_requireSlots := ⟨rfl, xg_of (i := 1020) rfl rfl, xg_of (i := 1) rfl rfl, ⟨by decide, by decide⟩, rfl, by decide⟩
set_option maxRecDepth 100000 in
theorem xc_129 : xm_cal xX 129 1 xM_X10_requireUser := ⟨rfl, xg_of (i := 948) rfl rfl, xg_of (i := 1) rfl rfl, ⟨by decide, by decide⟩, rfl, by decide⟩
set_option maxRecDepth 100000 in
theorem xc_130 : xm_cal xX 130 3 xM_X10_requireRange := ⟨rfl, xg_of (i := 555) rfl rfl, xg_of (i := 1) rfl rfl, ⟨by decide, by decide⟩, rfl, by decide⟩
set_option maxRecDepth 100000 in
theorem xc_131 : xm_cal xX 131 0 xM_X11_init := ⟨rfl, xg_of (i := 1541) rfl rfl, xg_of (i := 16) rfl rfl, ⟨by decide, by decide⟩, rfl, by decide⟩
set_option maxRecDepth 100000 in
theorem xc_132 : xm_cal xX 132 0 xM_X11_thrown := ⟨rfl, xg_of (i := 1653) rfl rfl, xg_of (i := 16) rfl rfl, ⟨by decide, by decide⟩, rfl, by decide⟩
set_option maxRecDepth 100000 in
theorem xc_133 : xm_cal xX 133 3 xM_X11_between := ⟨rfl, xg_of (i := 1672) rfl rfl, xg_of (i := 16) rfl rfl, ⟨by decide, by decide⟩, rfl, by decide⟩
set_option maxRecDepth 100000 in
theorem xc_134 : xm_cal xX 134 1 xM_X11_good := ⟨rfl, xg_of (i := 1796) rfl rfl, xg_of (i := 16) rfl rfl, ⟨by decide, by decide⟩, rfl, by decide⟩
set_option maxRecDepth 100000 in
theorem xc_135 : xm_cal xX 135 2 xM_X11_good_ := ⟨rfl, xg_of (i := 1860) rfl rfl, xg_of (i := 16) rfl rfl, ⟨by decide, by decide⟩, rfl, by decide⟩
set_option maxRecDepth 100000 in
theorem xc_136 : xm_cal xX 136 3 xM_X11_good__ := ⟨rfl, xg_of (i := 1979) rfl rfl, xg_of (i := 16) rfl rfl, ⟨by decide, by decide⟩, rfl, by decide⟩
set_option maxRecDepth 100000 in
theorem xc_137 : xm_cal xX 137 2 xM_X11_copy := ⟨rfl, xg_of (i := 1941) rfl rfl, xg_of (i := 16) rfl rfl, ⟨by decide, by decide⟩, rfl, by decide⟩
set_option maxRecDepth 100000 in
theorem xc_138 : xm_cal xX 138 0 xM_X11_remember := ⟨rfl, xg_of (i := 1983) rfl rfl, xg_of (i := 16) rfl rfl, ⟨by decide, by decide⟩, rfl, by decide⟩
set_option maxRecDepth 100000 in
theorem xc_139 : xm_cal xX 139 0 xM_X11_undo := ⟨rfl, xg_of (i := 1657) rfl rfl, xg_of (i := 16) rfl rfl, ⟨by decide, by decide⟩, rfl, by decide⟩
set_option maxRecDepth 100000 in
theorem xc_140 : xm_cal xX 140 1 xM_X11_append := ⟨rfl, xg_of (i := 1665) rfl rfl, xg_of (i := 16) rfl rfl, ⟨by decide, by decide⟩, rfl, by decide⟩
set_option maxRecDepth 100000 in
theorem xc_141 : xm_cal xX 141 5 xM_X11_feed := ⟨rfl, xg_of (i := 1661) rfl rfl, xg_of (i := 16) rfl rfl, ⟨by decide, by decide⟩, rfl, by decide⟩
set_option maxRecDepth 100000 in
theorem xc_142 : xm_cal xX 142 1 xM_X11_byteAt := ⟨rfl, xg_of (i := 1680) rfl rfl, xg_of (i := 16) rfl rfl, ⟨by decide, by decide⟩, rfl, by decide⟩
set_option maxRecDepth 100000 in
theorem xc_143 : xm_cal xX 143 1 xM_X11_isLetter := ⟨rfl, xg_of (i := 1683) rfl rfl, xg_of (i := 16) rfl rfl, ⟨by decide, by decide⟩, rfl, by decide⟩
set_option maxRecDepth 100000 in
theorem xc_144 : xm_cal xX 144 1 xM_X11_isDigit := ⟨rfl, xg_of (i := 1688) rfl rfl, xg_of (i := 16) rfl rfl, ⟨by decide, by decide⟩, rfl, by decide⟩
set_option maxRecDepth 100000 in
theorem xc_145 : xm_cal xX 145 0 xM_X11_advance := ⟨rfl, xg_of (i := 1676) rfl rfl, xg_of (i := 16) rfl rfl, ⟨by decide, by decide⟩, rfl, by decide⟩
set_option maxRecDepth 100000 in
theorem xc_146 : xm_cal xX 146 1 xM_X11_isWord := ⟨rfl, xg_of (i := 1697) rfl rfl, xg_of (i := 16) rfl rfl, ⟨by decide, by decide⟩, rfl, by decide⟩
set_option maxRecDepth 100000 in
theorem xc_147 : xm_cal xX 147 1 xM_X11_fail := ⟨rfl, xg_of (i := 1715) rfl rfl, xg_of (i := 16) rfl rfl, ⟨by decide, by decide⟩, rfl, by decide⟩
set_option maxRecDepth 100000 in
theorem xc_148 : xm_cal xX 148 2 xM_X11_number := ⟨rfl, xg_of (i := 1711) rfl rfl, xg_of (i := 16) rfl rfl, ⟨by decide, by decide⟩, rfl, by decide⟩
set_option maxRecDepth 100000 in
theorem xc_149 : xm_cal xX 149 3 xM_X11_numberTo := ⟨rfl, xg_of (i := 1707) rfl rfl, xg_of (i := 16) rfl rfl, ⟨by decide, by decide⟩, rfl, by decide⟩
set_option maxRecDepth 100000 in
theorem xc_150 : xm_cal xX 150 0 xM_X11_closed := ⟨rfl, xg_of (i := 1764) rfl rfl, xg_of (i := 16) rfl rfl, ⟨by decide, by decide⟩, rfl, by decide⟩
set_option maxRecDepth 100000 in
theorem xc_151 : xm_cal xX 151 0 xM_X11_resetTerms := ⟨rfl, xg_of (i := 1546) rfl rfl, xg_of (i := 16) rfl rfl, ⟨by decide, by decide⟩, rfl, by decide⟩
set_option maxRecDepth 100000 in
theorem xc_152 : xm_cal xX 152 0 xM_X11_takeTerms := ⟨rfl, xg_of (i := 1550) rfl rfl, xg_of (i := 16) rfl rfl, ⟨by decide, by decide⟩, rfl, by decide⟩
set_option maxRecDepth 100000 in
theorem xc_153 : xm_cal xX 153 3 xM_X11_find := ⟨rfl, xg_of (i := 1734) rfl rfl, xg_of (i := 16) rfl rfl, ⟨by decide, by decide⟩, rfl, by decide⟩
set_option maxRecDepth 100000 in
theorem xc_154 : xm_cal xX 154 1 xM_X11_ticks := ⟨rfl, xg_of (i := 1703) rfl rfl, xg_of (i := 16) rfl rfl, ⟨by decide, by decide⟩, rfl, by decide⟩
set_option maxRecDepth 100000 in
theorem xc_155 : xm_cal xX 155 0 xM_X11_slotsStatement := ⟨rfl, xg_of (i := 1721) rfl rfl, xg_of (i := 16) rfl rfl, ⟨by decide, by decide⟩, rfl, by decide⟩
set_option maxRecDepth 100000 in
theorem xc_156 : xm_cal xX 156 2 xM_X11_newName := ⟨rfl, xg_of (i := 1730) rfl rfl, xg_of (i := 16) rfl rfl, ⟨by decide, by decide⟩, rfl, by decide⟩
set_option maxRecDepth 100000 in
theorem xc_157 : xm_cal xX 157 0 xM_X11_tagStatement := ⟨rfl, xg_of (i := 1726) rfl rfl, xg_of (i := 16) rfl rfl, ⟨by decide, by decide⟩, rfl, by decide⟩
set_option maxRecDepth 100000 in
theorem xc_158 : xm_cal xX 158 1 xM_X11_target := ⟨rfl, xg_of (i := 1743) rfl rfl, xg_of (i := 16) rfl rfl, ⟨by decide, by decide⟩, rfl, by decide⟩
set_option maxRecDepth 100000 in
theorem xc_159 : xm_cal xX 159 0 xM_X11_campaignStatement := ⟨rfl, xg_of (i := 1739) rfl rfl, xg_of (i := 16) rfl rfl, ⟨by decide, by decide⟩, rfl, by decide⟩
set_option maxRecDepth 100000 in
theorem xc_160 : xm_cal xX 160 0 xM_X11_campaignName := ⟨rfl, xg_of (i := 1752) rfl rfl, xg_of (i := 16) rfl rfl, ⟨by decide, by decide⟩, rfl, by decide⟩
set_option maxRecDepth 100000 in
theorem xc_161 : xm_cal xX 161 0 xM_X11_paceStatement := ⟨rfl, xg_of (i := 1748) rfl rfl, xg_of (i := 16) rfl rfl, ⟨by decide, by decide⟩, rfl, by decide⟩
set_option maxRecDepth 100000 in
theorem xc_162 : xm_cal xX 162 0 xM_X11_apartStatement := ⟨rfl, xg_of (i := 1760) rfl rfl, xg_of (i := 16) rfl rfl, ⟨by decide, by decide⟩, rfl, by decide⟩
set_option maxRecDepth 100000 in
theorem xc_163 : xm_cal xX 163 0 xM_X11_statement := ⟨rfl, xg_of (i := 1692) rfl rfl, xg_of (i := 16) rfl rfl, ⟨by decide, by decide⟩, rfl, by decide⟩
set_option maxRecDepth 100000 in
theorem xc_164 : xm_cal xX 164 1 xM_X11_load := ⟨rfl, xg_of (i := 1669) rfl rfl, xg_of (i := 16) rfl rfl, ⟨by decide, by decide⟩, rfl, by decide⟩
set_option maxRecDepth 100000 in
theorem xc_165 : xm_cal xX 165 0 xM_X11_errorKind := ⟨rfl, xg_of (i := 1768) rfl rfl, xg_of (i := 16) rfl rfl, ⟨by decide, by decide⟩, rfl, by decide⟩
set_option maxRecDepth 100000 in
theorem xc_166 : xm_cal xX 166 0 xM_X11_errorPosition := ⟨rfl, xg_of (i := 1772) rfl rfl, xg_of (i := 16) rfl rfl, ⟨by decide, by decide⟩, rfl, by decide⟩
set_option maxRecDepth 100000 in
theorem xc_167 : xm_cal xX 167 1 xM_X11_isCampaign := ⟨rfl, xg_of (i := 1808) rfl rfl, xg_of (i := 16) rfl rfl, ⟨by decide, by decide⟩, rfl, by decide⟩
set_option maxRecDepth 100000 in
theorem xc_168 : xm_cal xX 168 1 xM_X11_isTag := ⟨rfl, xg_of (i := 1792) rfl rfl, xg_of (i := 16) rfl rfl, ⟨by decide, by decide⟩, rfl, by decide⟩
set_option maxRecDepth 100000 in
theorem xc_169 : xm_cal xX 169 1 xM_X11_isUser := ⟨rfl, xg_of (i := 1855) rfl rfl, xg_of (i := 16) rfl rfl, ⟨by decide, by decide⟩, rfl, by decide⟩
set_option maxRecDepth 100000 in
theorem xc_170 : xm_cal xX 170 1 xM_X11_areSlots := ⟨rfl, xg_of (i := 1917) rfl rfl, xg_of (i := 16) rfl rfl, ⟨by decide, by decide⟩, rfl, by decide⟩
set_option maxRecDepth 100000 in
theorem xc_171 : xm_cal xX 171 2 xM_X11_of := ⟨rfl, xg_of (i := 1812) rfl rfl, xg_of (i := 16) rfl rfl, ⟨by decide, by decide⟩, rfl, by decide⟩
set_option maxRecDepth 100000 in
theorem xc_172 : xm_cal xX 172 3 xM_X11_set := ⟨rfl, xg_of (i := 1554) rfl rfl, xg_of (i := 16) rfl rfl, ⟨by decide, by decide⟩, rfl, by decide⟩
set_option maxRecDepth 100000 in
theorem xc_173 : xm_cal xX 173 1 xM_X11_effective := ⟨rfl, xg_of (i := 1820) rfl rfl, xg_of (i := 16) rfl rfl, ⟨by decide, by decide⟩, rfl, by decide⟩
set_option maxRecDepth 100000 in
theorem xc_174 : xm_cal xX 174 1 xM_X11_planOf := ⟨rfl, xg_of (i := 1840) rfl rfl, xg_of (i := 16) rfl rfl, ⟨by decide, by decide⟩, rfl, by decide⟩
set_option maxRecDepth 100000 in
theorem xc_175 : xm_cal xX 175 1 xM_X11_leftOf := ⟨rfl, xg_of (i := 1868) rfl rfl, xg_of (i := 16) rfl rfl, ⟨by decide, by decide⟩, rfl, by decide⟩
set_option maxRecDepth 100000 in
theorem xc_176 : xm_cal xX 176 0 xM_X11_campaigns := ⟨rfl, xg_of (i := 1776) rfl rfl, xg_of (i := 16) rfl rfl, ⟨by decide, by decide⟩, rfl, by decide⟩
set_option maxRecDepth 100000 in
theorem xc_177 : xm_cal xX 177 0 xM_X11_tags := ⟨rfl, xg_of (i := 1780) rfl rfl, xg_of (i := 16) rfl rfl, ⟨by decide, by decide⟩, rfl, by decide⟩
set_option maxRecDepth 100000 in
theorem xc_178 : xm_cal xX 178 0 xM_X11_slots := ⟨rfl, xg_of (i := 1784) rfl rfl, xg_of (i := 16) rfl rfl, ⟨by decide, by decide⟩, rfl, by decide⟩
set_option maxRecDepth 100000 in
theorem xc_179 : xm_cal xX 179 1 xM_X11_floor := ⟨rfl, xg_of (i := 1788) rfl rfl, xg_of (i := 16) rfl rfl, ⟨by decide, by decide⟩, rfl, by decide⟩
set_option maxRecDepth 100000 in
theorem xc_180 : xm_cal xX 180 2 xM_X11_tell := ⟨rfl, xg_of (i := 1804) rfl rfl, xg_of (i := 16) rfl rfl, ⟨by decide, by decide⟩, rfl, by decide⟩
set_option maxRecDepth 100000 in
theorem xc_181 : xm_cal xX 181 1 xM_X11_bid := ⟨rfl, xg_of (i := 1800) rfl rfl, xg_of (i := 16) rfl rfl, ⟨by decide, by decide⟩, rfl, by decide⟩
set_option maxRecDepth 100000 in
theorem xc_182 : xm_cal xX 182 1 xM_X11_effectiveBid := ⟨rfl, xg_of (i := 1816) rfl rfl, xg_of (i := 16) rfl rfl, ⟨by decide, by decide⟩, rfl, by decide⟩
set_option maxRecDepth 100000 in
theorem xc_183 : xm_cal xX 183 1 xM_X11_multiplier := ⟨rfl, xg_of (i := 1824) rfl rfl, xg_of (i := 16) rfl rfl, ⟨by decide, by decide⟩, rfl, by decide⟩
set_option maxRecDepth 100000 in
theorem xc_184 : xm_cal xX 184 1 xM_X11_budget := ⟨rfl, xg_of (i := 1828) rfl rfl, xg_of (i := 16) rfl rfl, ⟨by decide, by decide⟩, rfl, by decide⟩
set_option maxRecDepth 100000 in
theorem xc_185 : xm_cal xX 185 1 xM_X11_spent := ⟨rfl, xg_of (i := 1832) rfl rfl, xg_of (i := 16) rfl rfl, ⟨by decide, by decide⟩, rfl, by decide⟩
set_option maxRecDepth 100000 in
theorem xc_186 : xm_cal xX 186 1 xM_X11_plan := ⟨rfl, xg_of (i := 1836) rfl rfl, xg_of (i := 16) rfl rfl, ⟨by decide, by decide⟩, rfl, by decide⟩
set_option maxRecDepth 100000 in
theorem xc_187 : xm_cal xX 187 1 xM_X11_mode := ⟨rfl, xg_of (i := 1844) rfl rfl, xg_of (i := 16) rfl rfl, ⟨by decide, by decide⟩, rfl, by decide⟩
set_option maxRecDepth 100000 in
theorem xc_188 : xm_cal xX 188 0 xM_X11_tick := ⟨rfl, xg_of (i := 1848) rfl rfl, xg_of (i := 16) rfl rfl, ⟨by decide, by decide⟩, rfl, by decide⟩
set_option maxRecDepth 100000 in
theorem xc_189 : xm_cal xX 189 2 xM_X11_impressionAt := ⟨rfl, xg_of (i := 1876) rfl rfl, xg_of (i := 16) rfl rfl, ⟨by decide, by decide⟩, rfl, by decide⟩
set_option maxRecDepth 100000 in
theorem xc_190 : xm_cal xX 190 2 xM_X11_recentOf := ⟨rfl, xg_of (i := 1872) rfl rfl, xg_of (i := 16) rfl rfl, ⟨by decide, by decide⟩, rfl, by decide⟩
set_option maxRecDepth 100000 in
theorem xc_191 : xm_cal xX 191 3 xM_X11_refusalOf := ⟨rfl, xg_of (i := 1864) rfl rfl, xg_of (i := 16) rfl rfl, ⟨by decide, by decide⟩, rfl, by decide⟩
set_option maxRecDepth 100000 in
theorem xc_192 : xm_cal xX 192 1 xM_X11_rankOne := ⟨rfl, xg_of (i := 1888) rfl rfl, xg_of (i := 16) rfl rfl, ⟨by decide, by decide⟩, rfl, by decide⟩
set_option maxRecDepth 100000 in
theorem xc_193 : xm_cal xX 193 1 xM_X11_isApart := ⟨rfl, xg_of (i := 1892) rfl rfl, xg_of (i := 16) rfl rfl, ⟨by decide, by decide⟩, rfl, by decide⟩
set_option maxRecDepth 100000 in
theorem xc_194 : xm_cal xX 194 3 xM_X11_priceOf := ⟨rfl, xg_of (i := 1896) rfl rfl, xg_of (i := 16) rfl rfl, ⟨by decide, by decide⟩, rfl, by decide⟩
set_option maxRecDepth 100000 in
theorem xc_195 : xm_cal xX 195 3 xM_X11_auction := ⟨rfl, xg_of (i := 1884) rfl rfl, xg_of (i := 16) rfl rfl, ⟨by decide, by decide⟩, rfl, by decide⟩
set_option maxRecDepth 100000 in
theorem xc_196 : xm_cal xX 196 1 xM_X11_takeOver := ⟨rfl, xg_of (i := 1949) rfl rfl, xg_of (i := 16) rfl rfl, ⟨by decide, by decide⟩, rfl, by decide⟩
set_option maxRecDepth 100000 in
theorem xc_197 : xm_cal xX 197 1 xM_X11_control := ⟨rfl, xg_of (i := 1957) rfl rfl, xg_of (i := 16) rfl rfl, ⟨by decide, by decide⟩, rfl, by decide⟩
set_option maxRecDepth 100000 in
theorem xc_198 : xm_cal xX 198 0 xM_X11_passTick := ⟨rfl, xg_of (i := 1953) rfl rfl, xg_of (i := 16) rfl rfl, ⟨by decide, by decide⟩, rfl, by decide⟩
set_option maxRecDepth 100000 in
theorem xc_199 : xm_cal xX 199 2 xM_X11_isRequest := ⟨rfl, xg_of (i := 1913) rfl rfl, xg_of (i := 16) rfl rfl, ⟨by decide, by decide⟩, rfl, by decide⟩
set_option maxRecDepth 100000 in
theorem xc_200 : xm_cal xX 200 3 xM_X11_refusal := ⟨rfl, xg_of (i := 1852) rfl rfl, xg_of (i := 16) rfl rfl, ⟨by decide, by decide⟩, rfl, by decide⟩
set_option maxRecDepth 100000 in
theorem xc_201 : xm_cal xX 201 3 xM_X11_ranked := ⟨rfl, xg_of (i := 1880) rfl rfl, xg_of (i := 16) rfl rfl, ⟨by decide, by decide⟩, rfl, by decide⟩
set_option maxRecDepth 100000 in
theorem xc_202 : xm_cal xX 202 3 xM_X11_winner := ⟨rfl, xg_of (i := 1901) rfl rfl, xg_of (i := 16) rfl rfl, ⟨by decide, by decide⟩, rfl, by decide⟩
set_option maxRecDepth 100000 in
theorem xc_203 : xm_cal xX 203 3 xM_X11_price := ⟨rfl, xg_of (i := 1905) rfl rfl, xg_of (i := 16) rfl rfl, ⟨by decide, by decide⟩, rfl, by decide⟩
set_option maxRecDepth 100000 in
theorem xc_204 : xm_cal xX 204 1 xM_X11_isWinner := ⟨rfl, xg_of (i := 1921) rfl rfl, xg_of (i := 16) rfl rfl, ⟨by decide, by decide⟩, rfl, by decide⟩
set_option maxRecDepth 100000 in
theorem xc_205 : xm_cal xX 205 4 xM_X11_leastBid := ⟨rfl, xg_of (i := 1909) rfl rfl, xg_of (i := 16) rfl rfl, ⟨by decide, by decide⟩, rfl, by decide⟩
set_option maxRecDepth 100000 in
theorem xc_206 : xm_cal xX 206 0 xM_X11_sumOfPrices := ⟨rfl, xg_of (i := 1929) rfl rfl, xg_of (i := 16) rfl rfl, ⟨by decide, by decide⟩, rfl, by decide⟩
set_option maxRecDepth 100000 in
theorem xc_207 : xm_cal xX 207 3 xM_X11_bestFloor := ⟨rfl, xg_of (i := 1925) rfl rfl, xg_of (i := 16) rfl rfl, ⟨by decide, by decide⟩, rfl, by decide⟩
set_option maxRecDepth 100000 in
theorem xc_208 : xm_cal xX 208 3 xM_X11_goAhead := ⟨rfl, xg_of (i := 1945) rfl rfl, xg_of (i := 16) rfl rfl, ⟨by decide, by decide⟩, rfl, by decide⟩
set_option maxRecDepth 100000 in
theorem xc_209 : xm_cal xX 209 2 xM_X11_isAhead := ⟨rfl, xg_of (i := 1937) rfl rfl, xg_of (i := 16) rfl rfl, ⟨by decide, by decide⟩, rfl, by decide⟩
set_option maxRecDepth 100000 in
theorem xc_210 : xm_cal xX 210 3 xM_X11_revenueAfter := ⟨rfl, xg_of (i := 1933) rfl rfl, xg_of (i := 16) rfl rfl, ⟨by decide, by decide⟩, rfl, by decide⟩
set_option maxRecDepth 100000 in
theorem xc_211 : xm_cal xX 211 4 xM_X11_multiplierAfter := ⟨rfl, xg_of (i := 1962) rfl rfl, xg_of (i := 16) rfl rfl, ⟨by decide, by decide⟩, rfl, by decide⟩
set_option maxRecDepth 100000 in
theorem xc_212 : xm_cal xX 212 1 xM_X11_impressionsOf := ⟨rfl, xg_of (i := 1970) rfl rfl, xg_of (i := 16) rfl rfl, ⟨by decide, by decide⟩, rfl, by decide⟩
set_option maxRecDepth 100000 in
theorem xc_213 : xm_cal xX 213 4 xM_X11_bestMode := ⟨rfl, xg_of (i := 1966) rfl rfl, xg_of (i := 16) rfl rfl, ⟨by decide, by decide⟩, rfl, by decide⟩
set_option maxRecDepth 100000 in
theorem xc_214 : xm_cal xX 214 3 xM_X11_request := ⟨rfl, xg_of (i := 1974) rfl rfl, xg_of (i := 16) rfl rfl, ⟨by decide, by decide⟩, rfl, by decide⟩
set_option maxRecDepth 100000 in
theorem xc_215 : xm_cal xX 215 1 xM_X11_pass := ⟨rfl, xg_of (i := 1987) rfl rfl, xg_of (i := 16) rfl rfl, ⟨by decide, by decide⟩, rfl, by decide⟩
set_option maxRecDepth 100000 in
theorem xc_216 : xm_cal xX 216 2 xM_X11_conversionAt := ⟨rfl, xg_of (i := 2005) rfl rfl, xg_of (i := 16) rfl rfl, ⟨by decide, by decide⟩, rfl, by decide⟩
set_option maxRecDepth 100000 in
theorem xc_217 : xm_cal xX 217 2 xM_X11_leads := ⟨rfl, xg_of (i := 2001) rfl rfl, xg_of (i := 16) rfl rfl, ⟨by decide, by decide⟩, rfl, by decide⟩
set_option maxRecDepth 100000 in
theorem xc_218 : xm_cal xX 218 1 xM_X11_lastOf := ⟨rfl, xg_of (i := 1997) rfl rfl, xg_of (i := 16) rfl rfl, ⟨by decide, by decide⟩, rfl, by decide⟩
set_option maxRecDepth 100000 in
theorem xc_219 : xm_cal xX 219 1 xM_X11_firstOf := ⟨rfl, xg_of (i := 2100) rfl rfl, xg_of (i := 16) rfl rfl, ⟨by decide, by decide⟩, rfl, by decide⟩
set_option maxRecDepth 100000 in
theorem xc_220 : xm_cal xX 220 1 xM_X11_campaignAt := ⟨rfl, xg_of (i := 2009) rfl rfl, xg_of (i := 16) rfl rfl, ⟨by decide, by decide⟩, rfl, by decide⟩
set_option maxRecDepth 100000 in
theorem xc_221 : xm_cal xX 221 2 xM_X11_convert := ⟨rfl, xg_of (i := 1993) rfl rfl, xg_of (i := 16) rfl rfl, ⟨by decide, by decide⟩, rfl, by decide⟩
set_option maxRecDepth 100000 in
theorem xc_222 : xm_cal xX 222 2 xM_X11_change := ⟨rfl, xg_of (i := 2017) rfl rfl, xg_of (i := 16) rfl rfl, ⟨by decide, by decide⟩, rfl, by decide⟩
set_option maxRecDepth 100000 in
theorem xc_223 : xm_cal xX 223 1 xM_X11_pause := ⟨rfl, xg_of (i := 2013) rfl rfl, xg_of (i := 16) rfl rfl, ⟨by decide, by decide⟩, rfl, by decide⟩
set_option maxRecDepth 100000 in
theorem xc_224 : xm_cal xX 224 1 xM_X11_resume := ⟨rfl, xg_of (i := 2021) rfl rfl, xg_of (i := 16) rfl rfl, ⟨by decide, by decide⟩, rfl, by decide⟩
set_option maxRecDepth 100000 in
theorem xc_225 : xm_cal xX 225 2 xM_X11_setBid := ⟨rfl, xg_of (i := 2025) rfl rfl, xg_of (i := 16) rfl rfl, ⟨by decide, by decide⟩, rfl, by decide⟩
set_option maxRecDepth 100000 in
theorem xc_226 : xm_cal xX 226 2 xM_X11_setBudget := ⟨rfl, xg_of (i := 2030) rfl rfl, xg_of (i := 16) rfl rfl, ⟨by decide, by decide⟩, rfl, by decide⟩
set_option maxRecDepth 100000 in
theorem xc_227 : xm_cal xX 227 2 xM_X11_setMode := ⟨rfl, xg_of (i := 2034) rfl rfl, xg_of (i := 16) rfl rfl, ⟨by decide, by decide⟩, rfl, by decide⟩
set_option maxRecDepth 100000 in
theorem xc_228 : xm_cal xX 228 2 xM_X11_setFloor := ⟨rfl, xg_of (i := 2039) rfl rfl, xg_of (i := 16) rfl rfl, ⟨by decide, by decide⟩, rfl, by decide⟩
set_option maxRecDepth 100000 in
theorem xc_229 : xm_cal xX 229 0 xM_X11_impressions := ⟨rfl, xg_of (i := 2043) rfl rfl, xg_of (i := 16) rfl rfl, ⟨by decide, by decide⟩, rfl, by decide⟩
set_option maxRecDepth 100000 in
theorem xc_230 : xm_cal xX 230 2 xM_X11_impression := ⟨rfl, xg_of (i := 2047) rfl rfl, xg_of (i := 16) rfl rfl, ⟨by decide, by decide⟩, rfl, by decide⟩
set_option maxRecDepth 100000 in
theorem xc_231 : xm_cal xX 231 0 xM_X11_revenue := ⟨rfl, xg_of (i := 2052) rfl rfl, xg_of (i := 16) rfl rfl, ⟨by decide, by decide⟩, rfl, by decide⟩
set_option maxRecDepth 100000 in
theorem xc_232 : xm_cal xX 232 1 xM_X11_reachOf := ⟨rfl, xg_of (i := 2060) rfl rfl, xg_of (i := 16) rfl rfl, ⟨by decide, by decide⟩, rfl, by decide⟩
set_option maxRecDepth 100000 in
theorem xc_233 : xm_cal xX 233 1 xM_X11_reach := ⟨rfl, xg_of (i := 2056) rfl rfl, xg_of (i := 16) rfl rfl, ⟨by decide, by decide⟩, rfl, by decide⟩
set_option maxRecDepth 100000 in
theorem xc_234 : xm_cal xX 234 1 xM_X11_frequency := ⟨rfl, xg_of (i := 2064) rfl rfl, xg_of (i := 16) rfl rfl, ⟨by decide, by decide⟩, rfl, by decide⟩
set_option maxRecDepth 100000 in
theorem xc_235 : xm_cal xX 235 2 xM_X11_recent := ⟨rfl, xg_of (i := 2068) rfl rfl, xg_of (i := 16) rfl rfl, ⟨by decide, by decide⟩, rfl, by decide⟩
set_option maxRecDepth 100000 in
theorem xc_236 : xm_cal xX 236 1 xM_X11_impressionsTo := ⟨rfl, xg_of (i := 2076) rfl rfl, xg_of (i := 16) rfl rfl, ⟨by decide, by decide⟩, rfl, by decide⟩
set_option maxRecDepth 100000 in
theorem xc_237 : xm_cal xX 237 0 xM_X11_topUser := ⟨rfl, xg_of (i := 2072) rfl rfl, xg_of (i := 16) rfl rfl, ⟨by decide, by decide⟩, rfl, by decide⟩
set_option maxRecDepth 100000 in
theorem xc_238 : xm_cal xX 238 1 xM_X11_meanPrice := ⟨rfl, xg_of (i := 2080) rfl rfl, xg_of (i := 16) rfl rfl, ⟨by decide, by decide⟩, rfl, by decide⟩
set_option maxRecDepth 100000 in
theorem xc_239 : xm_cal xX 239 0 xM_X11_conversions := ⟨rfl, xg_of (i := 2084) rfl rfl, xg_of (i := 16) rfl rfl, ⟨by decide, by decide⟩, rfl, by decide⟩
set_option maxRecDepth 100000 in
theorem xc_240 : xm_cal xX 240 2 xM_X11_evenShare := ⟨rfl, xg_of (i := 2096) rfl rfl, xg_of (i := 16) rfl rfl, ⟨by decide, by decide⟩, rfl, by decide⟩
set_option maxRecDepth 100000 in
theorem xc_241 : xm_cal xX 241 3 xM_X11_shareBy := ⟨rfl, xg_of (i := 2092) rfl rfl, xg_of (i := 16) rfl rfl, ⟨by decide, by decide⟩, rfl, by decide⟩
set_option maxRecDepth 100000 in
theorem xc_242 : xm_cal xX 242 2 xM_X11_credit := ⟨rfl, xg_of (i := 2088) rfl rfl, xg_of (i := 16) rfl rfl, ⟨by decide, by decide⟩, rfl, by decide⟩
set_option maxRecDepth 100000 in
theorem xc_243 : xm_cal xX 243 0 xM_X11_unattributed := ⟨rfl, xg_of (i := 2104) rfl rfl, xg_of (i := 16) rfl rfl, ⟨by decide, by decide⟩, rfl, by decide⟩
set_option maxRecDepth 100000 in
theorem xc_244 : xm_cal xX 244 1 xM_X11_put := ⟨rfl, xg_of (i := 2117) rfl rfl, xg_of (i := 16) rfl rfl, ⟨by decide, by decide⟩, rfl, by decide⟩
set_option maxRecDepth 100000 in
theorem xc_245 : xm_cal xX 245 1 xM_X11_putText := ⟨rfl, xg_of (i := 2124) rfl rfl, xg_of (i := 16) rfl rfl, ⟨by decide, by decide⟩, rfl, by decide⟩
set_option maxRecDepth 100000 in
theorem xc_246 : xm_cal xX 246 1 xM_X11_putNumber := ⟨rfl, xg_of (i := 2129) rfl rfl, xg_of (i := 16) rfl rfl, ⟨by decide, by decide⟩, rfl, by decide⟩
set_option maxRecDepth 100000 in
theorem xc_247 : xm_cal xX 247 1 xM_X11_putName := ⟨rfl, xg_of (i := 2112) rfl rfl, xg_of (i := 16) rfl rfl, ⟨by decide, by decide⟩, rfl, by decide⟩
set_option maxRecDepth 100000 in
theorem xc_248 : xm_cal xX 248 1 xM_X11_modeWord := ⟨rfl, xg_of (i := 2120) rfl rfl, xg_of (i := 16) rfl rfl, ⟨by decide, by decide⟩, rfl, by decide⟩
set_option maxRecDepth 100000 in
theorem xc_249 : xm_cal xX 249 1 xM_X11_write := ⟨rfl, xg_of (i := 2108) rfl rfl, xg_of (i := 16) rfl rfl, ⟨by decide, by decide⟩, rfl, by decide⟩
set_option maxRecDepth 100000 in
theorem xc_250 : xm_cal xX 250 1 xM_X11_written := ⟨rfl, xg_of (i := 2136) rfl rfl, xg_of (i := 16) rfl rfl, ⟨by decide, by decide⟩, rfl, by decide⟩
set_option maxRecDepth 100000 in
theorem xc_251 : xm_cal xX 251 1 xM_J5_init_d00df := ⟨rfl, xg_of (i := 426) rfl rfl, xg_of (i := 12) rfl rfl, ⟨by decide, by decide⟩, rfl, by decide⟩
set_option maxRecDepth 100000 in
theorem xc_252 : xm_cal xX 252 0 xM_J5_length_8abf5 := ⟨rfl, xg_of (i := 1423) rfl rfl, xg_of (i := 12) rfl rfl, ⟨by decide, by decide⟩, rfl, by decide⟩
set_option maxRecDepth 100000 in
theorem xc_253 : xm_cal xX 253 1 xM_J5_ensureCapacityInternal_d00df := ⟨rfl, xg_of (i := 1306) rfl rfl, xg_of (i := 12) rfl rfl, ⟨by decide, by decide⟩, rfl, by decide⟩
set_option maxRecDepth 100000 in
theorem xc_254 : xm_cal xX 254 1 xM_J5_newCapacity_0f7a4 := ⟨rfl, xg_of (i := 1310) rfl rfl, xg_of (i := 12) rfl rfl, ⟨by decide, by decide⟩, rfl, by decide⟩
set_option maxRecDepth 100000 in
theorem xc_255 : xm_cal xX 255 0 xM_J5_inflate_da8c8 := ⟨rfl, xg_of (i := 1362) rfl rfl, xg_of (i := 12) rfl rfl, ⟨by decide, by decide⟩, rfl, by decide⟩
set_option maxRecDepth 100000 in
theorem xc_256 : xm_cal xX 256 1 xM_J5_setLength_d00df := ⟨rfl, xg_of (i := 1283) rfl rfl, xg_of (i := 12) rfl rfl, ⟨by decide, by decide⟩, rfl, by decide⟩
set_option maxRecDepth 100000 in
theorem xc_257 : xm_cal xX 257 1 xM_J5_charAt_5068e := ⟨rfl, xg_of (i := 1533) rfl rfl, xg_of (i := 12) rfl rfl, ⟨by decide, by decide⟩, rfl, by decide⟩
set_option maxRecDepth 100000 in
theorem xc_258 : xm_cal xX 258 1 xM_J5_append_cf1ce := ⟨rfl, xg_of (i := 1298) rfl rfl, xg_of (i := 12) rfl rfl, ⟨by decide, by decide⟩, rfl, by decide⟩
set_option maxRecDepth 100000 in
theorem xc_259 : xm_cal xX 259 0 xM_J5_appendNull_278bc := ⟨rfl, xg_of (i := 1302) rfl rfl, xg_of (i := 12) rfl rfl, ⟨by decide, by decide⟩, rfl, by decide⟩
set_option maxRecDepth 100000 in
theorem xc_260 : xm_cal xX 260 1 xM_J5_append_3fe6f := ⟨rfl, xg_of (i := 1500) rfl rfl, xg_of (i := 12) rfl rfl, ⟨by decide, by decide⟩, rfl, by decide⟩
set_option maxRecDepth 100000 in
theorem xc_261 : xm_cal xX 261 1 xM_J5_append_c97b9 := ⟨rfl, xg_of (i := 1381) rfl rfl, xg_of (i := 12) rfl rfl, ⟨by decide, by decide⟩, rfl, by decide⟩
set_option maxRecDepth 100000 in
theorem xc_262 : xm_cal xX 262 0 xM_J5_getValue_6d5f1 := ⟨rfl, xg_of (i := 1415) rfl rfl, xg_of (i := 12) rfl rfl, ⟨by decide, by decide⟩, rfl, by decide⟩
set_option maxRecDepth 100000 in
theorem xc_263 : xm_cal xX 263 0 xM_J5_isLatin1_aae02 := ⟨rfl, xg_of (i := 1336) rfl rfl, xg_of (i := 12) rfl rfl, ⟨by decide, by decide⟩, rfl, by decide⟩
set_option maxRecDepth 100000 in
theorem xc_264 : xm_cal xX 264 1 xM_J5_inflateIfNeededFor_a7421 := ⟨rfl, xg_of (i := 1357) rfl rfl, xg_of (i := 12) rfl rfl, ⟨by decide, by decide⟩, rfl, by decide⟩
set_option maxRecDepth 100000 in
theorem xc_265 : xm_cal xX 265 2 xM_J5_putStringAt_47b60 := ⟨rfl, xg_of (i := 1353) rfl rfl, xg_of (i := 12) rfl rfl, ⟨by decide, by decide⟩, rfl, by decide⟩
set_option maxRecDepth 100000 in
theorem xc_267 : xm_cal xX 267 3 xM_J6_getChars_ba4f3 := ⟨rfl, xg_of (i := 1387) rfl rfl, xg_of (i := 27) rfl rfl, ⟨by decide, by decide⟩, rfl, by decide⟩
set_option maxRecDepth 100000 in
theorem xc_268 : xm_cal xX 268 1 xM_J6_stringSize_0f7a4 := ⟨rfl, xg_of (i := 1384) rfl rfl, xg_of (i := 27) rfl rfl, ⟨by decide, by decide⟩, rfl, by decide⟩
set_option maxRecDepth 100000 in
theorem xc_269 : xm_cal xX 269 1 xM_J6_bitCount_0f7a4 := ⟨rfl, xg_of (i := 1230) rfl rfl, xg_of (i := 27) rfl rfl, ⟨by decide, by decide⟩, rfl, by decide⟩
set_option maxRecDepth 100000 in
theorem xc_270 : xm_cal xX 270 2 xM_J9_max_7cf53 := ⟨rfl, xg_of (i := 1002) rfl rfl, xg_of (i := 21) rfl rfl, ⟨by decide, by decide⟩, rfl, by decide⟩
set_option maxRecDepth 100000 in
theorem xc_271 : xm_cal xX 271 2 xM_J9_min_7cf53 := ⟨rfl, xg_of (i := 636) rfl rfl, xg_of (i := 21) rfl rfl, ⟨by decide, by decide⟩, rfl, by decide⟩
set_option maxRecDepth 100000 in
theorem xc_272 : xm_cal xX 272 1 xM_J0_init_905df := ⟨rfl, xg_of (i := 762) rfl rfl, xg_of (i := 14) rfl rfl, ⟨by decide, by decide⟩, rfl, by decide⟩
set_option maxRecDepth 100000 in
theorem xc_273 : xm_cal xX 273 1 xM_J0_init_81219 := ⟨rfl, xg_of (i := 1407) rfl rfl, xg_of (i := 14) rfl rfl, ⟨by decide, by decide⟩, rfl, by decide⟩
set_option maxRecDepth 100000 in
theorem xc_274 : xm_cal xX 274 0 xM_J0_length_8abf5 := ⟨rfl, xg_of (i := 661) rfl rfl, xg_of (i := 14) rfl rfl, ⟨by decide, by decide⟩, rfl, by decide⟩
set_option maxRecDepth 100000 in
theorem xc_275 : xm_cal xX 275 1 xM_J0_charAt_5068e := ⟨rfl, xg_of (i := 670) rfl rfl, xg_of (i := 14) rfl rfl, ⟨by decide, by decide⟩, rfl, by decide⟩
set_option maxRecDepth 100000 in
theorem xc_276 : xm_cal xX 276 3 xM_J0_getBytes_840e7 := ⟨rfl, xg_of (i := 1372) rfl rfl, xg_of (i := 14) rfl rfl, ⟨by decide, by decide⟩, rfl, by decide⟩
set_option maxRecDepth 100000 in
theorem xc_277 : xm_cal xX 277 4 xM_J0_init_bb550 := ⟨rfl, xg_of (i := 765) rfl rfl, xg_of (i := 14) rfl rfl, ⟨by decide, by decide⟩, rfl, by decide⟩
set_option maxRecDepth 100000 in
theorem xc_278 : xm_cal xX 278 2 xM_J0_init_db425 := ⟨rfl, xg_of (i := 1410) rfl rfl, xg_of (i := 14) rfl rfl, ⟨by decide, by decide⟩, rfl, by decide⟩
set_option maxRecDepth 100000 in
theorem xc_279 : xm_cal xX 279 0 xM_J0_coder_7d493 := ⟨rfl, xg_of (i := 665) rfl rfl, xg_of (i := 14) rfl rfl, ⟨by decide, by decide⟩, rfl, by decide⟩
set_option maxRecDepth 100000 in
theorem xc_280 : xm_cal xX 280 0 xM_J0_isLatin1_aae02 := ⟨rfl, xg_of (i := 674) rfl rfl, xg_of (i := 14) rfl rfl, ⟨by decide, by decide⟩, rfl, by decide⟩
set_option maxRecDepth 100000 in
theorem xc_281 : xm_cal xX 281 2 xM_J0_checkIndex_df160 := ⟨rfl, xg_of (i := 680) rfl rfl, xg_of (i := 14) rfl rfl, ⟨by decide, by decide⟩, rfl, by decide⟩
set_option maxRecDepth 100000 in
theorem xc_282 : xm_cal xX 282 3 xM_J0_checkBoundsOffCount_cabcc := ⟨rfl, xg_of (i := 789) rfl rfl, xg_of (i := 14) rfl rfl, ⟨by decide, by decide⟩, rfl, by decide⟩
set_option maxRecDepth 100000 in
theorem xc_283 : xm_cal xX 283 3 xM_J0_checkBoundsBeginEnd_23922 := ⟨rfl, xg_of (i := 1345) rfl rfl, xg_of (i := 14) rfl rfl, ⟨by decide, by decide⟩, rfl, by decide⟩
set_option maxRecDepth 100000 in
theorem xc_284 : xm_cal xX 284 0 xM_J4_init_da8c8 := ⟨rfl, xg_of (i := 423) rfl rfl, xg_of (i := 13) rfl rfl, ⟨by decide, by decide⟩, rfl, by decide⟩
set_option maxRecDepth 100000 in
theorem xc_285 : xm_cal xX 285 1 xM_J4_append_15ec4 := ⟨rfl, xg_of (i := 1295) rfl rfl, xg_of (i := 13) rfl rfl, ⟨by decide, by decide⟩, rfl, by decide⟩
set_option maxRecDepth 100000 in
theorem xc_286 : xm_cal xX 286 1 xM_J4_append_cf468 := ⟨rfl, xg_of (i := 1497) rfl rfl, xg_of (i := 13) rfl rfl, ⟨by decide, by decide⟩, rfl, by decide⟩
set_option maxRecDepth 100000 in
theorem xc_287 : xm_cal xX 287 1 xM_J4_append_bf812 := ⟨rfl, xg_of (i := 1378) rfl rfl, xg_of (i := 13) rfl rfl, ⟨by decide, by decide⟩, rfl, by decide⟩
set_option maxRecDepth 100000 in
theorem xc_288 : xm_cal xX 288 0 xM_J4_toString_0e30d := ⟨rfl, xg_of (i := 1403) rfl rfl, xg_of (i := 13) rfl rfl, ⟨by decide, by decide⟩, rfl, by decide⟩
set_option maxRecDepth 100000 in
theorem xc_289 : xm_cal xX 289 1 xM_J4_charAt_5068e := ⟨rfl, xg_of (i := 1530) rfl rfl, xg_of (i := 13) rfl rfl, ⟨by decide, by decide⟩, rfl, by decide⟩
set_option maxRecDepth 100000 in
theorem xc_290 : xm_cal xX 290 1 xM_J4_setLength_d00df := ⟨rfl, xg_of (i := 1280) rfl rfl, xg_of (i := 13) rfl rfl, ⟨by decide, by decide⟩, rfl, by decide⟩
set_option maxRecDepth 100000 in
theorem xc_291 : xm_cal xX 291 0 xM_J4_length_8abf5 := ⟨rfl, xg_of (i := 1421) rfl rfl, xg_of (i := 13) rfl rfl, ⟨by decide, by decide⟩, rfl, by decide⟩
set_option maxRecDepth 100000 in
theorem xc_293 : xm_cal xX 293 2 xM_J1_charAt_3b067 := ⟨rfl, xg_of (i := 677) rfl rfl, xg_of (i := 22) rfl rfl, ⟨by decide, by decide⟩, rfl, by decide⟩
set_option maxRecDepth 100000 in
theorem xc_294 : xm_cal xX 294 1 xM_J1_canEncode_fc78d := ⟨rfl, xg_of (i := 1503) rfl rfl, xg_of (i := 22) rfl rfl, ⟨by decide, by decide⟩, rfl, by decide⟩
set_option maxRecDepth 100000 in
theorem xc_295 : xm_cal xX 295 3 xM_J1_fillNull_b72d1 := ⟨rfl, xg_of (i := 1456) rfl rfl, xg_of (i := 22) rfl rfl, ⟨by decide, by decide⟩, rfl, by decide⟩
set_option maxRecDepth 100000 in
theorem xc_296 : xm_cal xX 296 5 xM_J1_inflate_0e8fd := ⟨rfl, xg_of (i := 1365) rfl rfl, xg_of (i := 22) rfl rfl, ⟨by decide, by decide⟩, rfl, by decide⟩
set_option maxRecDepth 100000 in
theorem xc_297 : xm_cal xX 297 1 xM_J2_newBytesFor_77867 := ⟨rfl, xg_of (i := 432) rfl rfl, xg_of (i := 15) rfl rfl, ⟨by decide, by decide⟩, rfl, by decide⟩
set_option maxRecDepth 100000 in
theorem xc_298 : xm_cal xX 298 1 xM_J2_newBytesLength_0f7a4 := ⟨rfl, xg_of (i := 435) rfl rfl, xg_of (i := 15) rfl rfl, ⟨by decide, by decide⟩, rfl, by decide⟩
set_option maxRecDepth 100000 in
theorem xc_299 : xm_cal xX 299 3 xM_J2_putChar_b72d1 := ⟨rfl, xg_of (i := 780) rfl rfl, xg_of (i := 15) rfl rfl, ⟨by decide, by decide⟩, rfl, by decide⟩
set_option maxRecDepth 100000 in
theorem xc_300 : xm_cal xX 300 2 xM_J2_getChar_3b067 := ⟨rfl, xg_of (i := 698) rfl rfl, xg_of (i := 15) rfl rfl, ⟨by decide, by decide⟩, rfl, by decide⟩
set_option maxRecDepth 100000 in
theorem xc_301 : xm_cal xX 301 1 xM_J2_length_9d52b := ⟨rfl, xg_of (i := 694) rfl rfl, xg_of (i := 15) rfl rfl, ⟨by decide, by decide⟩, rfl, by decide⟩
set_option maxRecDepth 100000 in
theorem xc_302 : xm_cal xX 302 3 xM_J2_toBytes_dfd3c := ⟨rfl, xg_of (i := 776) rfl rfl, xg_of (i := 15) rfl rfl, ⟨by decide, by decide⟩, rfl, by decide⟩
set_option maxRecDepth 100000 in
theorem xc_303 : xm_cal xX 303 2 xM_J2_coderFromArrayLen_85cad := ⟨rfl, xg_of (i := 795) rfl rfl, xg_of (i := 15) rfl rfl, ⟨by decide, by decide⟩, rfl, by decide⟩
set_option maxRecDepth 100000 in
theorem xc_304 : xm_cal xX 304 3 xM_J2_compress_dfd3c := ⟨rfl, xg_of (i := 770) rfl rfl, xg_of (i := 15) rfl rfl, ⟨by decide, by decide⟩, rfl, by decide⟩
set_option maxRecDepth 100000 in
theorem xc_305 : xm_cal xX 305 3 xM_J2_compress_39247 := ⟨rfl, xg_of (i := 1444) rfl rfl, xg_of (i := 15) rfl rfl, ⟨by decide, by decide⟩, rfl, by decide⟩
set_option maxRecDepth 100000 in
theorem xc_306 : xm_cal xX 306 5 xM_J2_compress_fe38e := ⟨rfl, xg_of (i := 773) rfl rfl, xg_of (i := 15) rfl rfl, ⟨by decide, by decide⟩, rfl, by decide⟩
set_option maxRecDepth 100000 in
theorem xc_307 : xm_cal xX 307 5 xM_J2_compress_5af95 := ⟨rfl, xg_of (i := 783) rfl rfl, xg_of (i := 15) rfl rfl, ⟨by decide, by decide⟩, rfl, by decide⟩
set_option maxRecDepth 100000 in
theorem xc_308 : xm_cal xX 308 3 xM_J2_fillNull_b72d1 := ⟨rfl, xg_of (i := 1491) rfl rfl, xg_of (i := 15) rfl rfl, ⟨by decide, by decide⟩, rfl, by decide⟩
set_option maxRecDepth 100000 in
theorem xc_309 : xm_cal xX 309 3 xM_J2_putCharSB_b72d1 := ⟨rfl, xg_of (i := 1506) rfl rfl, xg_of (i := 15) rfl rfl, ⟨by decide, by decide⟩, rfl, by decide⟩
set_option maxRecDepth 100000 in
theorem xc_310 : xm_cal xX 310 4 xM_J2_getChars_46870 := ⟨rfl, xg_of (i := 1394) rfl rfl, xg_of (i := 15) rfl rfl, ⟨by decide, by decide⟩, rfl, by decide⟩
set_option maxRecDepth 100000 in
theorem xc_311 : xm_cal xX 311 6 xM_J2_putCharsAt_cd4e5 := ⟨rfl, xg_of (i := 1339) rfl rfl, xg_of (i := 15) rfl rfl, ⟨by decide, by decide⟩, rfl, by decide⟩
set_option maxRecDepth 100000 in
theorem xc_312 : xm_cal xX 312 2 xM_J2_charAt_3b067 := ⟨rfl, xg_of (i := 688) rfl rfl, xg_of (i := 15) rfl rfl, ⟨by decide, by decide⟩, rfl, by decide⟩
set_option maxRecDepth 100000 in
theorem xc_313 : xm_cal xX 313 5 xM_J2_inflate_0e8fd := ⟨rfl, xg_of (i := 1368) rfl rfl, xg_of (i := 15) rfl rfl, ⟨by decide, by decide⟩, rfl, by decide⟩
set_option maxRecDepth 100000 in
theorem xc_314 : xm_cal xX 314 3 xM_J2_getChars_ba4f3 := ⟨rfl, xg_of (i := 1397) rfl rfl, xg_of (i := 15) rfl rfl, ⟨by decide, by decide⟩, rfl, by decide⟩
set_option maxRecDepth 100000 in
theorem xc_315 : xm_cal xX 315 2 xM_J2_checkIndex_2214a := ⟨rfl, xg_of (i := 691) rfl rfl, xg_of (i := 15) rfl rfl, ⟨by decide, by decide⟩, rfl, by decide⟩
set_option maxRecDepth 100000 in
theorem xc_316 : xm_cal xX 316 3 xM_J2_checkBoundsBeginEnd_d044e := ⟨rfl, xg_of (i := 1342) rfl rfl, xg_of (i := 15) rfl rfl, ⟨by decide, by decide⟩, rfl, by decide⟩
set_option maxRecDepth 100000 in
theorem xc_317 : xm_cal xX 317 3 xM_J2_checkBoundsOffCount_d044e := ⟨rfl, xg_of (i := 786) rfl rfl, xg_of (i := 15) rfl rfl, ⟨by decide, by decide⟩, rfl, by decide⟩
set_option maxRecDepth 100000 in
theorem xc_318 : xm_cal xX 318 3 xM_J7_rangeCheck_23922 := ⟨rfl, xg_of (i := 1462) rfl rfl, xg_of (i := 30) rfl rfl, ⟨by decide, by decide⟩, rfl, by decide⟩
set_option maxRecDepth 100000 in
theorem xc_319 : xm_cal xX 319 4 xM_J7_fill_eb02e := ⟨rfl, xg_of (i := 1459) rfl rfl, xg_of (i := 30) rfl rfl, ⟨by decide, by decide⟩, rfl, by decide⟩
set_option maxRecDepth 100000 in
theorem xc_320 : xm_cal xX 320 2 xM_J7_copyOf_9075b := ⟨rfl, xg_of (i := 1322) rfl rfl, xg_of (i := 30) rfl rfl, ⟨by decide, by decide⟩, rfl, by decide⟩
set_option maxRecDepth 100000 in
theorem xc_321 : xm_cal xX 321 2 xM_J7_checkLength_df160 := ⟨rfl, xg_of (i := 1433) rfl rfl, xg_of (i := 30) rfl rfl, ⟨by decide, by decide⟩, rfl, by decide⟩
set_option maxRecDepth 100000 in
theorem xc_322 : xm_cal xX 322 3 xM_J7_copyOfRange_39247 := ⟨rfl, xg_of (i := 1427) rfl rfl, xg_of (i := 30) rfl rfl, ⟨by decide, by decide⟩, rfl, by decide⟩
set_option maxRecDepth 100000 in
theorem xc_323 : xm_cal xX 323 3 xM_J7_copyOfRangeByte_39247 := ⟨rfl, xg_of (i := 1430) rfl rfl, xg_of (i := 30) rfl rfl, ⟨by decide, by decide⟩, rfl, by decide⟩
set_option maxRecDepth 100000 in
theorem xc_324 : xm_cal xX 324 3 xM_J8_newLength_cabcc := ⟨rfl, xg_of (i := 1313) rfl rfl, xg_of (i := 29) rfl rfl, ⟨by decide, by decide⟩, rfl, by decide⟩
set_option maxRecDepth 100000 in
theorem xc_325 : xm_cal xX 325 2 xM_J8_hugeLength_7cf53 := ⟨rfl, xg_of (i := 1318) rfl rfl, xg_of (i := 29) rfl rfl, ⟨by decide, by decide⟩, rfl, by decide⟩
set_option maxRecDepth 100000 in
theorem xc_326 : xm_cal xX 326 3 xM_J3_checkIndex_8e157 := ⟨rfl, xg_of (i := 685) rfl rfl, xg_of (i := 23) rfl rfl, ⟨by decide, by decide⟩, rfl, by decide⟩
set_option maxRecDepth 100000 in
theorem xc_327 : xm_cal xX 327 4 xM_J3_checkFromToIndex_8c36e := ⟨rfl, xg_of (i := 1348) rfl rfl, xg_of (i := 23) rfl rfl, ⟨by decide, by decide⟩, rfl, by decide⟩
set_option maxRecDepth 100000 in
theorem xc_328 : xm_cal xX 328 4 xM_J3_checkFromIndexSize_8c36e := ⟨rfl, xg_of (i := 792) rfl rfl, xg_of (i := 23) rfl rfl, ⟨by decide, by decide⟩, rfl, by decide⟩
set_option maxRecDepth 100000 in
theorem xc_329 : xm_cal xX 329 3 xM_L_load := ⟨rfl, xg_of (i := 547) rfl rfl, xg_of (i := 0) rfl rfl, ⟨by decide, by decide⟩, rfl, by decide⟩
set_option maxRecDepth 100000 in
theorem xc_330 : xm_cal xX 330 3 xM_L_floor := ⟨rfl, xg_of (i := 848) rfl rfl, xg_of (i := 0) rfl rfl, ⟨by decide, by decide⟩, rfl, by decide⟩
set_option maxRecDepth 100000 in
theorem xc_331 : xm_cal xX 331 3 xM_L_bid := ⟨rfl, xg_of (i := 876) rfl rfl, xg_of (i := 0) rfl rfl, ⟨by decide, by decide⟩, rfl, by decide⟩
set_option maxRecDepth 100000 in
theorem xc_332 : xm_cal xX 332 3 xM_L_effectiveBid := ⟨rfl, xg_of (i := 888) rfl rfl, xg_of (i := 0) rfl rfl, ⟨by decide, by decide⟩, rfl, by decide⟩
set_option maxRecDepth 100000 in
theorem xc_333 : xm_cal xX 333 3 xM_L_multiplier := ⟨rfl, xg_of (i := 902) rfl rfl, xg_of (i := 0) rfl rfl, ⟨by decide, by decide⟩, rfl, by decide⟩
set_option maxRecDepth 100000 in
theorem xc_334 : xm_cal xX 334 3 xM_L_budget := ⟨rfl, xg_of (i := 909) rfl rfl, xg_of (i := 0) rfl rfl, ⟨by decide, by decide⟩, rfl, by decide⟩
set_option maxRecDepth 100000 in
theorem xc_335 : xm_cal xX 335 3 xM_L_spent := ⟨rfl, xg_of (i := 916) rfl rfl, xg_of (i := 0) rfl rfl, ⟨by decide, by decide⟩, rfl, by decide⟩
set_option maxRecDepth 100000 in
theorem xc_336 : xm_cal xX 336 3 xM_L_plan := ⟨rfl, xg_of (i := 923) rfl rfl, xg_of (i := 0) rfl rfl, ⟨by decide, by decide⟩, rfl, by decide⟩
set_option maxRecDepth 100000 in
theorem xc_337 : xm_cal xX 337 3 xM_L_mode := ⟨rfl, xg_of (i := 934) rfl rfl, xg_of (i := 0) rfl rfl, ⟨by decide, by decide⟩, rfl, by decide⟩
set_option maxRecDepth 100000 in
theorem xc_338 : xm_cal xX 338 5 xM_L_refusal := ⟨rfl, xg_of (i := 941) rfl rfl, xg_of (i := 0) rfl rfl, ⟨by decide, by decide⟩, rfl, by decide⟩
set_option maxRecDepth 100000 in
theorem xc_339 : xm_cal xX 339 5 xM_L_ranked := ⟨rfl, xg_of (i := 964) rfl rfl, xg_of (i := 0) rfl rfl, ⟨by decide, by decide⟩, rfl, by decide⟩
set_option maxRecDepth 100000 in
theorem xc_340 : xm_cal xX 340 5 xM_L_winner := ⟨rfl, xg_of (i := 983) rfl rfl, xg_of (i := 0) rfl rfl, ⟨by decide, by decide⟩, rfl, by decide⟩
set_option maxRecDepth 100000 in
theorem xc_341 : xm_cal xX 341 5 xM_L_price := ⟨rfl, xg_of (i := 1005) rfl rfl, xg_of (i := 0) rfl rfl, ⟨by decide, by decide⟩, rfl, by decide⟩
set_option maxRecDepth 100000 in
theorem xc_342 : xm_cal xX 342 6 xM_L_leastBid := ⟨rfl, xg_of (i := 1012) rfl rfl, xg_of (i := 0) rfl rfl, ⟨by decide, by decide⟩, rfl, by decide⟩
set_option maxRecDepth 100000 in
theorem xc_343 : xm_cal xX 343 5 xM_L_bestFloor := ⟨rfl, xg_of (i := 1032) rfl rfl, xg_of (i := 0) rfl rfl, ⟨by decide, by decide⟩, rfl, by decide⟩
set_option maxRecDepth 100000 in
theorem xc_344 : xm_cal xX 344 5 xM_L_revenueAfter := ⟨rfl, xg_of (i := 1052) rfl rfl, xg_of (i := 0) rfl rfl, ⟨by decide, by decide⟩, rfl, by decide⟩
set_option maxRecDepth 100000 in
theorem xc_345 : xm_cal xX 345 6 xM_L_multiplierAfter := ⟨rfl, xg_of (i := 1082) rfl rfl, xg_of (i := 0) rfl rfl, ⟨by decide, by decide⟩, rfl, by decide⟩
set_option maxRecDepth 100000 in
theorem xc_346 : xm_cal xX 346 6 xM_L_bestMode := ⟨rfl, xg_of (i := 1089) rfl rfl, xg_of (i := 0) rfl rfl, ⟨by decide, by decide⟩, rfl, by decide⟩
set_option maxRecDepth 100000 in
theorem xc_347 : xm_cal xX 347 5 xM_L_request := ⟨rfl, xg_of (i := 1104) rfl rfl, xg_of (i := 0) rfl rfl, ⟨by decide, by decide⟩, rfl, by decide⟩
set_option maxRecDepth 100000 in
theorem xc_348 : xm_cal xX 348 3 xM_L_pass := ⟨rfl, xg_of (i := 1133) rfl rfl, xg_of (i := 0) rfl rfl, ⟨by decide, by decide⟩, rfl, by decide⟩
set_option maxRecDepth 100000 in
theorem xc_349 : xm_cal xX 349 4 xM_L_convert := ⟨rfl, xg_of (i := 1141) rfl rfl, xg_of (i := 0) rfl rfl, ⟨by decide, by decide⟩, rfl, by decide⟩
set_option maxRecDepth 100000 in
theorem xc_350 : xm_cal xX 350 3 xM_L_pause := ⟨rfl, xg_of (i := 1161) rfl rfl, xg_of (i := 0) rfl rfl, ⟨by decide, by decide⟩, rfl, by decide⟩
set_option maxRecDepth 100000 in
theorem xc_351 : xm_cal xX 351 3 xM_L_resume := ⟨rfl, xg_of (i := 1170) rfl rfl, xg_of (i := 0) rfl rfl, ⟨by decide, by decide⟩, rfl, by decide⟩
set_option maxRecDepth 100000 in
theorem xc_352 : xm_cal xX 352 4 xM_L_setBid := ⟨rfl, xg_of (i := 1178) rfl rfl, xg_of (i := 0) rfl rfl, ⟨by decide, by decide⟩, rfl, by decide⟩
set_option maxRecDepth 100000 in
theorem xc_353 : xm_cal xX 353 4 xM_L_setBudget := ⟨rfl, xg_of (i := 1185) rfl rfl, xg_of (i := 0) rfl rfl, ⟨by decide, by decide⟩, rfl, by decide⟩
set_option maxRecDepth 100000 in
theorem xc_354 : xm_cal xX 354 4 xM_L_setMode := ⟨rfl, xg_of (i := 1193) rfl rfl, xg_of (i := 0) rfl rfl, ⟨by decide, by decide⟩, rfl, by decide⟩
set_option maxRecDepth 100000 in
theorem xc_355 : xm_cal xX 355 4 xM_L_setFloor := ⟨rfl, xg_of (i := 1200) rfl rfl, xg_of (i := 0) rfl rfl, ⟨by decide, by decide⟩, rfl, by decide⟩
set_option maxRecDepth 100000 in
theorem xc_356 : xm_cal xX 356 4 xM_L_impression := ⟨rfl, xg_of (i := 1207) rfl rfl, xg_of (i := 0) rfl rfl, ⟨by decide, by decide⟩, rfl, by decide⟩
set_option maxRecDepth 100000 in
theorem xc_357 : xm_cal xX 357 3 xM_L_reach := ⟨rfl, xg_of (i := 1219) rfl rfl, xg_of (i := 0) rfl rfl, ⟨by decide, by decide⟩, rfl, by decide⟩
set_option maxRecDepth 100000 in
theorem xc_358 : xm_cal xX 358 3 xM_L_frequency := ⟨rfl, xg_of (i := 1236) rfl rfl, xg_of (i := 0) rfl rfl, ⟨by decide, by decide⟩, rfl, by decide⟩
set_option maxRecDepth 100000 in
theorem xc_359 : xm_cal xX 359 4 xM_L_recent := ⟨rfl, xg_of (i := 1246) rfl rfl, xg_of (i := 0) rfl rfl, ⟨by decide, by decide⟩, rfl, by decide⟩
set_option maxRecDepth 100000 in
theorem xc_360 : xm_cal xX 360 3 xM_L_meanPrice := ⟨rfl, xg_of (i := 1253) rfl rfl, xg_of (i := 0) rfl rfl, ⟨by decide, by decide⟩, rfl, by decide⟩
set_option maxRecDepth 100000 in
theorem xc_361 : xm_cal xX 361 4 xM_L_credit := ⟨rfl, xg_of (i := 1260) rfl rfl, xg_of (i := 0) rfl rfl, ⟨by decide, by decide⟩, rfl, by decide⟩
set_option maxRecDepth 100000 in
theorem xc_362 : xm_cal xX 362 3 xM_L_write := ⟨rfl, xg_of (i := 1272) rfl rfl, xg_of (i := 0) rfl rfl, ⟨by decide, by decide⟩, rfl, by decide⟩
set_option maxRecDepth 100000 in
theorem xc_363 : xm_cal xX 363 3 xM_L_written := ⟨rfl, xg_of (i := 1521) rfl rfl, xg_of (i := 0) rfl rfl, ⟨by decide, by decide⟩, rfl, by decide⟩
def xm_mk2 (own : String) (idx kind y n t : Nat) : Prop := match kind with
  | 0 => ∃ N, xm_cal xX y n N ∧ N.2.1 = [] ∧ Cond.methodLink own idx N.2.2.1 ∈ xgd ∧ Cond.static N.2.2.1 ∈ xgd
  | 3 => ∃ N host, xm_cal xX y n N ∧ N.2.1 = [] ∧ Cond.methodLinkNest own idx N.2.2.1 host ∈ xnw ∧ Cond.static N.2.2.1 ∈ xgd
  | 10 => ∃ N x r, xm_cal xX y n N ∧ N.2.1 = x :: r ∧ Cond.methodLink own idx N.2.2.1 ∈ xgd ∧ Cond.static N.2.2.1 ∈ xgd
  | 9 => Cond.methodLink own idx arraycopyName ∈ xgd ∧ Cond.native arraycopyName ∈ xgd ∧ Cond.static arraycopyName ∈ xgd ∧ Cond.initialized "java/lang/System" ∈ xgd ∧ (y = 100 ∨ y = 101 ∨ y = 102)
  | 1 => ∃ N q, xm_cal xX y n N ∧ N.2.1 = [] ∧ xcl[t]? = some q ∧ t < 14 ∧ Cond.methodLink own idx N.2.2.1 ∈ xgd ∧ Cond.instanceMethod N.2.2.1 ∈ xgd ∧ Cond.selects q.1 N.2.2.1 N.2.2.1 ∈ xgd
  | 6 => ∃ (N : xm_M) (q : vw_C) (x : MethodName), xm_cal xX y n N ∧ N.2.1 = [] ∧ xcl[t]? = some q ∧ t < 14 ∧ Cond.methodLink own idx x ∈ xgd ∧ Cond.sameMethod x.cls N.2.2.1.cls x.name x.desc ∈ xgd ∧ Cond.selects q.1 x N.2.2.1 ∈ xgd ∧ Cond.instanceMethod N.2.2.1 ∈ xgd ∧ N.2.2.1.name = x.name ∧ N.2.2.1.desc = x.desc
  | 2 => ∃ N, xm_cal xX y n N ∧ N.2.1 = [] ∧ N.2.2.2.2.2 = none ∧ N.2.2.1.name = "<init>" ∧ Cond.methodLink own idx N.2.2.1 ∈ xgd ∧ Cond.instanceMethod N.2.2.1 ∈ xgd
  | 4 => ∃ N host, xm_cal xX y n N ∧ N.2.1 = [] ∧ N.2.2.2.2.2 = none ∧ N.2.2.1.name = "<init>" ∧ Cond.methodLinkNest own idx N.2.2.1 host ∈ xnw ∧ Cond.instanceMethod N.2.2.1 ∈ xgd
  | 7 => ∃ (N : xm_M) (q : vw_C), xm_cal xX y n N ∧ N.2.1 = [] ∧ xcl[t]? = some q ∧ t < 14 ∧ N.2.2.1.name ≠ "<init>" ∧ Cond.methodLink own idx N.2.2.1 ∈ xgd ∧ Cond.sameMethod N.2.2.1.cls N.2.2.1.cls N.2.2.1.name N.2.2.1.desc ∈ xgd ∧ Cond.superclass own N.2.2.1.cls ∈ xgd ∧ Cond.instanceMethod N.2.2.1 ∈ xgd
  | 8 => Cond.methodLink own idx objectInit ∈ xgd ∧ Cond.instanceMethod objectInit ∈ xgd ∧ Cond.code objectInit ⟨#[0xb1]⟩ 1 none ∈ xgd
  | _ => False
def xm_mq (q : Nat × Nat × Nat × Nat × Nat × Nat) : Prop := xm_mk2 (xon.getD q.1 "") q.2.1 q.2.2.1 q.2.2.2.1 q.2.2.2.2.1 q.2.2.2.2.2
set_option maxRecDepth 100000 in
theorem xML_p0_0 : xm_mq (0, 1, 8, 0, 0, 0) := ⟨xg_of (i := 110) rfl rfl, xg_of (i := 38) rfl rfl, xg_of (i := 39) rfl rfl⟩
set_option maxRecDepth 100000 in
theorem xML_p0_1 : xm_mq (1, 3, 8, 0, 0, 0) := ⟨xg_of (i := 379) rfl rfl, xg_of (i := 38) rfl rfl, xg_of (i := 39) rfl rfl⟩
set_option maxRecDepth 100000 in
theorem xML_p0_2 : xm_mq (1, 27, 3, 124, 2, 0) := ⟨_, _, xc_124, rfl, xw_of (i := 1269) rfl rfl, xg_of (i := 1242) rfl rfl⟩
set_option maxRecDepth 100000 in
theorem xML_p0_3 : xm_mq (2, 3, 8, 0, 0, 0) := ⟨xg_of (i := 228) rfl rfl, xg_of (i := 38) rfl rfl, xg_of (i := 39) rfl rfl⟩
set_option maxRecDepth 100000 in
theorem xML_p0_4 : xm_mq (2, 11, 2, 56, 0, 7) := ⟨_, xc_56, rfl, rfl, rfl, xg_of (i := 230) rfl rfl, xg_of (i := 82) rfl rfl⟩
set_option maxRecDepth 100000 in
theorem xML_p0_5 : xm_mq (2, 20, 4, 58, 0, 8) := ⟨_, _, xc_58, rfl, rfl, rfl, xw_of (i := 233) rfl rfl, xg_of (i := 234) rfl rfl⟩
set_option maxRecDepth 100000 in
theorem xML_p0_6 : xm_mq (2, 25, 1, 59, 1, 8) := ⟨_, _, xc_59, rfl, rfl, by decide, xg_of (i := 292) rfl rfl, xg_of (i := 293) rfl rfl, xg_of (i := 294) rfl rfl⟩
set_option maxRecDepth 100000 in
theorem xML_p0_7 : xm_mq (2, 31, 4, 30, 0, 5) := ⟨_, _, xc_30, rfl, rfl, rfl, xw_of (i := 302) rfl rfl, xg_of (i := 303) rfl rfl⟩
set_option maxRecDepth 100000 in
theorem xML_p0_8 : xm_mq (2, 58, 0, 8, 2, 0) := ⟨_, xc_8, rfl, xg_of (i := 897) rfl rfl, xg_of (i := 898) rfl rfl⟩
set_option maxRecDepth 100000 in
theorem xML_p0_9 : xm_mq (2, 81, 1, 12, 1, 3) := ⟨_, _, xc_12, rfl, rfl, by decide, xg_of (i := 1074) rfl rfl, xg_of (i := 1076) rfl rfl, xg_sel (i := 32) rfl⟩
set_option maxRecDepth 100000 in
theorem xML_p0_10 : xm_mq (2, 88, 1, 60, 0, 8) := ⟨_, _, xc_60, rfl, rfl, by decide, xg_of (i := 1079) rfl rfl, xg_of (i := 297) rfl rfl, xg_of (i := 298) rfl rfl⟩
set_option maxRecDepth 100000 in
theorem xML_p0_11 : xm_mq (2, 91, 1, 9, 1, 3) := ⟨_, _, xc_9, rfl, rfl, by decide, xg_of (i := 961) rfl rfl, xg_of (i := 929) rfl rfl, xg_of (i := 930) rfl rfl⟩
set_option maxRecDepth 100000 in
theorem xML_p0_12 : xm_mq (2, 95, 0, 270, 2, 0) := ⟨_, xc_270, rfl, xg_of (i := 1000) rfl rfl, xg_of (i := 1001) rfl rfl⟩
set_option maxRecDepth 100000 in
theorem xML_p0_13 : xm_mq (2, 100, 0, 271, 2, 0) := ⟨_, xc_271, rfl, xg_of (i := 1078) rfl rfl, xg_of (i := 635) rfl rfl⟩
set_option maxRecDepth 100000 in
theorem xML_p0_14 : xm_mq (2, 130, 1, 10, 1, 3) := ⟨_, _, xc_10, rfl, rfl, by decide, xg_of (i := 957) rfl rfl, xg_of (i := 958) rfl rfl, xg_of (i := 959) rfl rfl⟩
set_option maxRecDepth 100000 in
theorem xML_p0_15 : xm_mq (2, 136, 1, 13, 1, 3) := ⟨_, _, xc_13, rfl, rfl, by decide, xg_of (i := 974) rfl rfl, xg_of (i := 950) rfl rfl, xg_of (i := 951) rfl rfl⟩
set_option maxRecDepth 100000 in
theorem xML_p0_16 : xm_mq (2, 142, 1, 7, 1, 3) := ⟨_, _, xc_7, rfl, rfl, by decide, xg_of (i := 975) rfl rfl, xg_of (i := 894) rfl rfl, xg_of (i := 895) rfl rfl⟩
set_option maxRecDepth 100000 in
theorem xML_p0_17 : xm_mq (2, 145, 1, 14, 4, 3) := ⟨_, _, xc_14, rfl, rfl, by decide, xg_of (i := 976) rfl rfl, xg_of (i := 954) rfl rfl, xg_of (i := 955) rfl rfl⟩
set_option maxRecDepth 100000 in
theorem xML_p0_18 : xm_mq (2, 149, 1, 16, 1, 3) := ⟨_, _, xc_16, rfl, rfl, by decide, xg_of (i := 977) rfl rfl, xg_of (i := 979) rfl rfl, xg_sel (i := 23) rfl⟩
set_option maxRecDepth 100000 in
theorem xML_p0_19 : xm_mq (2, 158, 1, 18, 2, 3) := ⟨_, _, xc_18, rfl, rfl, by decide, xg_of (i := 996) rfl rfl, xg_of (i := 998) rfl rfl, xg_sel (i := 25) rfl⟩
set_option maxRecDepth 100000 in
theorem xML_p0_20 : xm_mq (2, 167, 1, 15, 3, 3) := ⟨_, _, xc_15, rfl, rfl, by decide, xg_of (i := 1025) rfl rfl, xg_of (i := 971) rfl rfl, xg_of (i := 972) rfl rfl⟩
set_option maxRecDepth 100000 in
theorem xML_p0_21 : xm_mq (2, 171, 1, 17, 2, 3) := ⟨_, _, xc_17, rfl, rfl, by decide, xg_of (i := 1045) rfl rfl, xg_of (i := 993) rfl rfl, xg_of (i := 994) rfl rfl⟩
set_option maxRecDepth 100000 in
theorem xML_p0_22 : xm_mq (2, 175, 1, 20, 2, 3) := ⟨_, _, xc_20, rfl, rfl, by decide, xg_of (i := 1066) rfl rfl, xg_of (i := 1068) rfl rfl, xg_sel (i := 31) rfl⟩
set_option maxRecDepth 100000 in
theorem xML_p0_23 : xm_mq (2, 182, 1, 22, 2, 3) := ⟨_, _, xc_22, rfl, rfl, by decide, xg_of (i := 1026) rfl rfl, xg_of (i := 1028) rfl rfl, xg_sel (i := 27) rfl⟩
set_option maxRecDepth 100000 in
theorem xML_p0_24 : xm_mq (2, 185, 1, 25, 2, 3) := ⟨_, _, xc_25, rfl, rfl, by decide, xg_of (i := 1041) rfl rfl, xg_of (i := 1043) rfl rfl, xg_sel (i := 28) rfl⟩
set_option maxRecDepth 100000 in
theorem xML_p0_25 : xm_mq (2, 188, 1, 24, 3, 3) := ⟨_, _, xc_24, rfl, rfl, by decide, xg_of (i := 1046) rfl rfl, xg_of (i := 1048) rfl rfl, xg_sel (i := 29) rfl⟩
set_option maxRecDepth 100000 in
theorem xML_p0_26 : xm_mq (3, 3, 8, 0, 0, 0) := ⟨xg_of (i := 404) rfl rfl, xg_of (i := 38) rfl rfl, xg_of (i := 39) rfl rfl⟩
set_option maxRecDepth 100000 in
theorem xML_p0_27 : xm_mq (3, 17, 4, 58, 0, 8) := ⟨_, _, xc_58, rfl, rfl, rfl, xw_of (i := 407) rfl rfl, xg_of (i := 234) rfl rfl⟩
set_option maxRecDepth 100000 in
theorem xML_p0_28 : xm_mq (3, 25, 1, 62, 1, 8) := ⟨_, _, xc_62, rfl, rfl, by decide, xg_of (i := 510) rfl rfl, xg_of (i := 511) rfl rfl, xg_of (i := 512) rfl rfl⟩
set_option maxRecDepth 100000 in
theorem xML_p0_29 : xm_mq (3, 29, 0, 271, 2, 0) := ⟨_, xc_271, rfl, xg_of (i := 1130) rfl rfl, xg_of (i := 635) rfl rfl⟩
set_option maxRecDepth 100000 in
theorem xML_p0_30 : xm_mq (4, 3, 8, 0, 0, 0) := ⟨xg_of (i := 305) rfl rfl, xg_of (i := 38) rfl rfl, xg_of (i := 39) rfl rfl⟩
set_option maxRecDepth 100000 in
theorem xML_p0_31 : xm_mq (4, 27, 0, 269, 1, 0) := ⟨_, xc_269, rfl, xg_of (i := 1228) rfl rfl, xg_of (i := 1229) rfl rfl⟩
set_option maxRecDepth 100000 in
theorem xML_p0_32 : xm_mq (5, 3, 8, 0, 0, 0) := ⟨xg_of (i := 45) rfl rfl, xg_of (i := 38) rfl rfl, xg_of (i := 39) rfl rfl⟩
set_option maxRecDepth 100000 in
theorem xML_p0_33 : xm_mq (5, 11, 4, 64, 0, 10) := ⟨_, _, xc_64, rfl, rfl, rfl, xw_of (i := 48) rfl rfl, xg_of (i := 49) rfl rfl⟩
set_option maxRecDepth 100000 in
theorem xML_p0_34 : xm_mq (5, 20, 2, 56, 0, 7) := ⟨_, xc_56, rfl, rfl, rfl, xg_of (i := 81) rfl rfl, xg_of (i := 82) rfl rfl⟩
set_option maxRecDepth 100000 in
theorem xML_p0_35 : xm_mq (5, 32, 1, 57, 0, 7) := ⟨_, _, xc_57, rfl, rfl, by decide, xg_of (i := 629) rfl rfl, xg_of (i := 147) rfl rfl, xg_of (i := 148) rfl rfl⟩
set_option maxRecDepth 100000 in
theorem xML_p0_36 : xm_mq (5, 35, 1, 66, 1, 10) := ⟨_, _, xc_66, rfl, rfl, by decide, xg_of (i := 630) rfl rfl, xg_of (i := 631) rfl rfl, xg_of (i := 632) rfl rfl⟩
set_option maxRecDepth 100000 in
theorem xML_p0_37 : xm_mq (5, 42, 1, 38, 0, 6) := ⟨_, _, xc_38, rfl, rfl, by decide, xg_of (i := 649) rfl rfl, xg_of (i := 651) rfl rfl, xg_sel (i := 3) rfl⟩
set_option maxRecDepth 100000 in
theorem xML_p0_38 : xm_mq (5, 48, 1, 70, 1, 10) := ⟨_, _, xc_70, rfl, rfl, by decide, xg_of (i := 654) rfl rfl, xg_of (i := 655) rfl rfl, xg_of (i := 656) rfl rfl⟩
set_option maxRecDepth 100000 in
theorem xML_p0_39 : xm_mq (5, 52, 1, 39, 0, 6) := ⟨_, _, xc_39, rfl, rfl, by decide, xg_of (i := 705) rfl rfl, xg_of (i := 707) rfl rfl, xg_sel (i := 4) rfl⟩
def xML_0 : List (Nat × Nat × Nat × Nat × Nat × Nat) := [(0, 1, 8, 0, 0, 0), (1, 3, 8, 0, 0, 0), (1, 27, 3, 124, 2, 0), (2, 3, 8, 0, 0, 0), (2, 11, 2, 56, 0, 7), (2, 20, 4, 58, 0, 8), (2, 25, 1, 59, 1, 8), (2, 31, 4, 30, 0, 5), (2, 58, 0, 8, 2, 0), (2, 81, 1, 12, 1, 3), (2, 88, 1, 60, 0, 8), (2, 91, 1, 9, 1, 3), (2, 95, 0, 270, 2, 0), (2, 100, 0, 271, 2, 0), (2, 130, 1, 10, 1, 3), (2, 136, 1, 13, 1, 3), (2, 142, 1, 7, 1, 3), (2, 145, 1, 14, 4, 3), (2, 149, 1, 16, 1, 3), (2, 158, 1, 18, 2, 3), (2, 167, 1, 15, 3, 3), (2, 171, 1, 17, 2, 3), (2, 175, 1, 20, 2, 3), (2, 182, 1, 22, 2, 3), (2, 185, 1, 25, 2, 3), (2, 188, 1, 24, 3, 3), (3, 3, 8, 0, 0, 0), (3, 17, 4, 58, 0, 8), (3, 25, 1, 62, 1, 8), (3, 29, 0, 271, 2, 0), (4, 3, 8, 0, 0, 0), (4, 27, 0, 269, 1, 0), (5, 3, 8, 0, 0, 0), (5, 11, 4, 64, 0, 10), (5, 20, 2, 56, 0, 7), (5, 32, 1, 57, 0, 7), (5, 35, 1, 66, 1, 10), (5, 42, 1, 38, 0, 6), (5, 48, 1, 70, 1, 10), (5, 52, 1, 39, 0, 6)]
theorem xML_ok0 : ∀ q ∈ xML_0, xm_mq q := List.forall_mem_cons.mpr ⟨xML_p0_0, List.forall_mem_cons.mpr ⟨xML_p0_1, List.forall_mem_cons.mpr ⟨xML_p0_2, List.forall_mem_cons.mpr ⟨xML_p0_3, List.forall_mem_cons.mpr ⟨xML_p0_4, List.forall_mem_cons.mpr ⟨xML_p0_5, List.forall_mem_cons.mpr ⟨xML_p0_6, List.forall_mem_cons.mpr ⟨xML_p0_7, List.forall_mem_cons.mpr ⟨xML_p0_8, List.forall_mem_cons.mpr ⟨xML_p0_9, List.forall_mem_cons.mpr ⟨xML_p0_10, List.forall_mem_cons.mpr ⟨xML_p0_11, List.forall_mem_cons.mpr ⟨xML_p0_12, List.forall_mem_cons.mpr ⟨xML_p0_13, List.forall_mem_cons.mpr ⟨xML_p0_14, List.forall_mem_cons.mpr ⟨xML_p0_15, List.forall_mem_cons.mpr ⟨xML_p0_16, List.forall_mem_cons.mpr ⟨xML_p0_17, List.forall_mem_cons.mpr ⟨xML_p0_18, List.forall_mem_cons.mpr ⟨xML_p0_19, List.forall_mem_cons.mpr ⟨xML_p0_20, List.forall_mem_cons.mpr ⟨xML_p0_21, List.forall_mem_cons.mpr ⟨xML_p0_22, List.forall_mem_cons.mpr ⟨xML_p0_23, List.forall_mem_cons.mpr ⟨xML_p0_24, List.forall_mem_cons.mpr ⟨xML_p0_25, List.forall_mem_cons.mpr ⟨xML_p0_26, List.forall_mem_cons.mpr ⟨xML_p0_27, List.forall_mem_cons.mpr ⟨xML_p0_28, List.forall_mem_cons.mpr ⟨xML_p0_29, List.forall_mem_cons.mpr ⟨xML_p0_30, List.forall_mem_cons.mpr ⟨xML_p0_31, List.forall_mem_cons.mpr ⟨xML_p0_32, List.forall_mem_cons.mpr ⟨xML_p0_33, List.forall_mem_cons.mpr ⟨xML_p0_34, List.forall_mem_cons.mpr ⟨xML_p0_35, List.forall_mem_cons.mpr ⟨xML_p0_36, List.forall_mem_cons.mpr ⟨xML_p0_37, List.forall_mem_cons.mpr ⟨xML_p0_38, List.forall_mem_cons.mpr ⟨xML_p0_39, fun _ h => absurd h List.not_mem_nil⟩⟩⟩⟩⟩⟩⟩⟩⟩⟩⟩⟩⟩⟩⟩⟩⟩⟩⟩⟩⟩⟩⟩⟩⟩⟩⟩⟩⟩⟩⟩⟩⟩⟩⟩⟩⟩⟩⟩⟩
set_option maxRecDepth 100000 in
theorem xML_p1_0 : xm_mq (5, 56, 1, 40, 0, 6) := ⟨_, _, xc_40, rfl, rfl, by decide, xg_of (i := 731) rfl rfl, xg_of (i := 733) rfl rfl, xg_sel (i := 10) rfl⟩
set_option maxRecDepth 100000 in
theorem xML_p1_1 : xm_mq (5, 61, 1, 41, 0, 6) := ⟨_, _, xc_41, rfl, rfl, by decide, xg_of (i := 736) rfl rfl, xg_of (i := 738) rfl rfl, xg_sel (i := 11) rfl⟩
set_option maxRecDepth 100000 in
theorem xML_p1_2 : xm_mq (5, 66, 1, 42, 0, 6) := ⟨_, _, xc_42, rfl, rfl, by decide, xg_of (i := 741) rfl rfl, xg_of (i := 743) rfl rfl, xg_sel (i := 12) rfl⟩
set_option maxRecDepth 100000 in
theorem xML_p1_3 : xm_mq (5, 71, 1, 43, 0, 6) := ⟨_, _, xc_43, rfl, rfl, by decide, xg_of (i := 809) rfl rfl, xg_of (i := 811) rfl rfl, xg_sel (i := 15) rfl⟩
set_option maxRecDepth 100000 in
theorem xML_p1_4 : xm_mq (5, 76, 1, 45, 0, 6) := ⟨_, _, xc_45, rfl, rfl, by decide, xg_of (i := 822) rfl rfl, xg_of (i := 824) rfl rfl, xg_sel (i := 18) rfl⟩
set_option maxRecDepth 100000 in
theorem xML_p1_5 : xm_mq (5, 80, 1, 46, 0, 6) := ⟨_, _, xc_46, rfl, rfl, by decide, xg_of (i := 834) rfl rfl, xg_of (i := 836) rfl rfl, xg_sel (i := 20) rfl⟩
set_option maxRecDepth 100000 in
theorem xML_p1_6 : xm_mq (5, 82, 1, 54, 0, 6) := ⟨_, _, xc_54, rfl, rfl, by decide, xg_of (i := 714) rfl rfl, xg_of (i := 716) rfl rfl, xg_sel (i := 6) rfl⟩
set_option maxRecDepth 100000 in
theorem xML_p1_7 : xm_mq (5, 85, 1, 67, 0, 10) := ⟨_, _, xc_67, rfl, rfl, by decide, xg_of (i := 709) rfl rfl, xg_of (i := 638) rfl rfl, xg_of (i := 639) rfl rfl⟩
set_option maxRecDepth 100000 in
theorem xML_p1_8 : xm_mq (5, 88, 1, 51, 2, 6) := ⟨_, _, xc_51, rfl, rfl, by decide, xg_of (i := 710) rfl rfl, xg_of (i := 712) rfl rfl, xg_sel (i := 5) rfl⟩
set_option maxRecDepth 100000 in
theorem xML_p1_9 : xm_mq (5, 98, 1, 53, 0, 6) := ⟨_, _, xc_53, rfl, rfl, by decide, xg_of (i := 726) rfl rfl, xg_of (i := 728) rfl rfl, xg_sel (i := 9) rfl⟩
set_option maxRecDepth 100000 in
theorem xML_p1_10 : xm_mq (5, 110, 1, 52, 2, 6) := ⟨_, _, xc_52, rfl, rfl, by decide, xg_of (i := 722) rfl rfl, xg_of (i := 724) rfl rfl, xg_sel (i := 8) rfl⟩
set_option maxRecDepth 100000 in
theorem xML_p1_11 : xm_mq (5, 113, 1, 55, 1, 6) := ⟨_, _, xc_55, rfl, rfl, by decide, xg_of (i := 718) rfl rfl, xg_of (i := 720) rfl rfl, xg_sel (i := 7) rfl⟩
set_option maxRecDepth 100000 in
theorem xML_p1_12 : xm_mq (5, 124, 1, 49, 0, 6) := ⟨_, _, xc_49, rfl, rfl, by decide, xg_of (i := 745) rfl rfl, xg_of (i := 747) rfl rfl, xg_sel (i := 13) rfl⟩
set_option maxRecDepth 100000 in
theorem xML_p1_13 : xm_mq (5, 128, 1, 47, 1, 6) := ⟨_, _, xc_47, rfl, rfl, by decide, xg_of (i := 749) rfl rfl, xg_of (i := 751) rfl rfl, xg_sel (i := 14) rfl⟩
set_option maxRecDepth 100000 in
theorem xML_p1_14 : xm_mq (5, 131, 1, 71, 0, 10) := ⟨_, _, xc_71, rfl, rfl, by decide, xg_of (i := 754) rfl rfl, xg_of (i := 755) rfl rfl, xg_of (i := 756) rfl rfl⟩
set_option maxRecDepth 100000 in
theorem xML_p1_15 : xm_mq (5, 151, 1, 50, 0, 6) := ⟨_, _, xc_50, rfl, rfl, by decide, xg_of (i := 813) rfl rfl, xg_of (i := 815) rfl rfl, xg_sel (i := 16) rfl⟩
set_option maxRecDepth 100000 in
theorem xML_p1_16 : xm_mq (5, 169, 1, 44, 0, 6) := ⟨_, _, xc_44, rfl, rfl, by decide, xg_of (i := 817) rfl rfl, xg_of (i := 819) rfl rfl, xg_sel (i := 17) rfl⟩
set_option maxRecDepth 100000 in
theorem xML_p1_17 : xm_mq (5, 185, 1, 48, 0, 6) := ⟨_, _, xc_48, rfl, rfl, by decide, xg_of (i := 826) rfl rfl, xg_of (i := 828) rfl rfl, xg_sel (i := 19) rfl⟩
set_option maxRecDepth 100000 in
theorem xML_p1_18 : xm_mq (6, 3, 8, 0, 0, 0) := ⟨xg_of (i := 84) rfl rfl, xg_of (i := 38) rfl rfl, xg_of (i := 39) rfl rfl⟩
set_option maxRecDepth 100000 in
theorem xML_p1_19 : xm_mq (6, 21, 4, 63, 0, 9) := ⟨_, _, xc_63, rfl, rfl, rfl, xw_of (i := 88) rfl rfl, xg_of (i := 89) rfl rfl⟩
set_option maxRecDepth 100000 in
theorem xML_p1_20 : xm_mq (6, 28, 4, 0, 0, 1) := ⟨_, _, xc_0, rfl, rfl, rfl, xw_of (i := 107) rfl rfl, xg_of (i := 108) rfl rfl⟩
set_option maxRecDepth 100000 in
theorem xML_p1_21 : xm_mq (6, 29, 1, 57, 0, 7) := ⟨_, _, xc_57, rfl, rfl, by decide, xg_of (i := 146) rfl rfl, xg_of (i := 147) rfl rfl, xg_of (i := 148) rfl rfl⟩
set_option maxRecDepth 100000 in
theorem xML_p1_22 : xm_mq (7, 3, 8, 0, 0, 0) := ⟨xg_of (i := 236) rfl rfl, xg_of (i := 38) rfl rfl, xg_of (i := 39) rfl rfl⟩
set_option maxRecDepth 100000 in
theorem xML_p1_23 : xm_mq (7, 76, 1, 60, 0, 8) := ⟨_, _, xc_60, rfl, rfl, by decide, xg_of (i := 296) rfl rfl, xg_of (i := 297) rfl rfl, xg_of (i := 298) rfl rfl⟩
set_option maxRecDepth 100000 in
theorem xML_p1_24 : xm_mq (7, 82, 9, 100, 0, 0) := ⟨xg_of (i := 514) rfl rfl, xg_of (i := 516) rfl rfl, xg_of (i := 515) rfl rfl, xg_of (i := 25) rfl rfl, Or.inl rfl⟩
set_option maxRecDepth 100000 in
theorem xML_p1_25 : xm_mq (7, 82, 9, 101, 0, 0) := ⟨xg_of (i := 514) rfl rfl, xg_of (i := 516) rfl rfl, xg_of (i := 515) rfl rfl, xg_of (i := 25) rfl rfl, Or.inr (Or.inl rfl)⟩
set_option maxRecDepth 100000 in
theorem xML_p1_26 : xm_mq (8, 1, 8, 0, 0, 0) := ⟨xg_of (i := 91) rfl rfl, xg_of (i := 38) rfl rfl, xg_of (i := 39) rfl rfl⟩
set_option maxRecDepth 100000 in
theorem xML_p1_27 : xm_mq (9, 3, 8, 0, 0, 0) := ⟨xg_of (i := 51) rfl rfl, xg_of (i := 38) rfl rfl, xg_of (i := 39) rfl rfl⟩
set_option maxRecDepth 100000 in
theorem xML_p1_28 : xm_mq (9, 19, 0, 271, 2, 0) := ⟨_, xc_271, rfl, xg_of (i := 634) rfl rfl, xg_of (i := 635) rfl rfl⟩
set_option maxRecDepth 100000 in
theorem xML_p1_29 : xm_mq (9, 31, 1, 67, 0, 10) := ⟨_, _, xc_67, rfl, rfl, by decide, xg_of (i := 637) rfl rfl, xg_of (i := 638) rfl rfl, xg_of (i := 639) rfl rfl⟩
set_option maxRecDepth 100000 in
theorem xML_p1_30 : xm_mq (9, 37, 1, 68, 2, 10) := ⟨_, _, xc_68, rfl, rfl, by decide, xg_of (i := 641) rfl rfl, xg_of (i := 643) rfl rfl, xg_sel (i := 1) rfl⟩
set_option maxRecDepth 100000 in
theorem xML_p1_31 : xm_mq (9, 44, 1, 69, 0, 10) := ⟨_, _, xc_69, rfl, rfl, by decide, xg_of (i := 645) rfl rfl, xg_of (i := 647) rfl rfl, xg_sel (i := 2) rfl⟩
set_option maxRecDepth 100000 in
theorem xML_p1_32 : xm_mq (9, 50, 1, 274, 0, 12) := ⟨_, _, xc_274, rfl, rfl, by decide, xg_of (i := 658) rfl rfl, xg_of (i := 659) rfl rfl, xg_of (i := 660) rfl rfl⟩
set_option maxRecDepth 100000 in
theorem xML_p1_33 : xm_mq (9, 55, 1, 275, 1, 12) := ⟨_, _, xc_275, rfl, rfl, by decide, xg_of (i := 667) rfl rfl, xg_of (i := 668) rfl rfl, xg_of (i := 669) rfl rfl⟩
set_option maxRecDepth 100000 in
theorem xML_p1_34 : xm_mq (9, 59, 2, 272, 1, 12) := ⟨_, xc_272, rfl, rfl, rfl, xg_of (i := 760) rfl rfl, xg_of (i := 761) rfl rfl⟩
set_option maxRecDepth 100000 in
theorem xML_p1_35 : xm_mq (10, 1, 8, 0, 0, 0) := ⟨xg_of (i := 37) rfl rfl, xg_of (i := 38) rfl rfl, xg_of (i := 39) rfl rfl⟩
set_option maxRecDepth 100000 in
theorem xML_p1_36 : xm_mq (10, 9, 2, 36, 0, 6) := ⟨_, xc_36, rfl, rfl, rfl, xg_of (i := 42) rfl rfl, xg_of (i := 43) rfl rfl⟩
set_option maxRecDepth 100000 in
theorem xML_p1_37 : xm_mq (10, 18, 2, 5, 0, 3) := ⟨_, xc_5, rfl, rfl, rfl, xg_of (i := 225) rfl rfl, xg_of (i := 226) rfl rfl⟩
set_option maxRecDepth 100000 in
theorem xML_p1_38 : xm_mq (10, 25, 4, 58, 0, 8) := ⟨_, _, xc_58, rfl, rfl, rfl, xw_of (i := 373) rfl rfl, xg_of (i := 234) rfl rfl⟩
set_option maxRecDepth 100000 in
theorem xML_p1_39 : xm_mq (10, 32, 4, 1, 0, 2) := ⟨_, _, xc_1, rfl, rfl, rfl, xw_of (i := 376) rfl rfl, xg_of (i := 377) rfl rfl⟩
def xML_1 : List (Nat × Nat × Nat × Nat × Nat × Nat) := [(5, 56, 1, 40, 0, 6), (5, 61, 1, 41, 0, 6), (5, 66, 1, 42, 0, 6), (5, 71, 1, 43, 0, 6), (5, 76, 1, 45, 0, 6), (5, 80, 1, 46, 0, 6), (5, 82, 1, 54, 0, 6), (5, 85, 1, 67, 0, 10), (5, 88, 1, 51, 2, 6), (5, 98, 1, 53, 0, 6), (5, 110, 1, 52, 2, 6), (5, 113, 1, 55, 1, 6), (5, 124, 1, 49, 0, 6), (5, 128, 1, 47, 1, 6), (5, 131, 1, 71, 0, 10), (5, 151, 1, 50, 0, 6), (5, 169, 1, 44, 0, 6), (5, 185, 1, 48, 0, 6), (6, 3, 8, 0, 0, 0), (6, 21, 4, 63, 0, 9), (6, 28, 4, 0, 0, 1), (6, 29, 1, 57, 0, 7), (7, 3, 8, 0, 0, 0), (7, 76, 1, 60, 0, 8), (7, 82, 9, 100, 0, 0), (7, 82, 9, 101, 0, 0), (8, 1, 8, 0, 0, 0), (9, 3, 8, 0, 0, 0), (9, 19, 0, 271, 2, 0), (9, 31, 1, 67, 0, 10), (9, 37, 1, 68, 2, 10), (9, 44, 1, 69, 0, 10), (9, 50, 1, 274, 0, 12), (9, 55, 1, 275, 1, 12), (9, 59, 2, 272, 1, 12), (10, 1, 8, 0, 0, 0), (10, 9, 2, 36, 0, 6), (10, 18, 2, 5, 0, 3), (10, 25, 4, 58, 0, 8), (10, 32, 4, 1, 0, 2)]
theorem xML_ok1 : ∀ q ∈ xML_1, xm_mq q := List.forall_mem_cons.mpr ⟨xML_p1_0, List.forall_mem_cons.mpr ⟨xML_p1_1, List.forall_mem_cons.mpr ⟨xML_p1_2, List.forall_mem_cons.mpr ⟨xML_p1_3, List.forall_mem_cons.mpr ⟨xML_p1_4, List.forall_mem_cons.mpr ⟨xML_p1_5, List.forall_mem_cons.mpr ⟨xML_p1_6, List.forall_mem_cons.mpr ⟨xML_p1_7, List.forall_mem_cons.mpr ⟨xML_p1_8, List.forall_mem_cons.mpr ⟨xML_p1_9, List.forall_mem_cons.mpr ⟨xML_p1_10, List.forall_mem_cons.mpr ⟨xML_p1_11, List.forall_mem_cons.mpr ⟨xML_p1_12, List.forall_mem_cons.mpr ⟨xML_p1_13, List.forall_mem_cons.mpr ⟨xML_p1_14, List.forall_mem_cons.mpr ⟨xML_p1_15, List.forall_mem_cons.mpr ⟨xML_p1_16, List.forall_mem_cons.mpr ⟨xML_p1_17, List.forall_mem_cons.mpr ⟨xML_p1_18, List.forall_mem_cons.mpr ⟨xML_p1_19, List.forall_mem_cons.mpr ⟨xML_p1_20, List.forall_mem_cons.mpr ⟨xML_p1_21, List.forall_mem_cons.mpr ⟨xML_p1_22, List.forall_mem_cons.mpr ⟨xML_p1_23, List.forall_mem_cons.mpr ⟨xML_p1_24, List.forall_mem_cons.mpr ⟨xML_p1_25, List.forall_mem_cons.mpr ⟨xML_p1_26, List.forall_mem_cons.mpr ⟨xML_p1_27, List.forall_mem_cons.mpr ⟨xML_p1_28, List.forall_mem_cons.mpr ⟨xML_p1_29, List.forall_mem_cons.mpr ⟨xML_p1_30, List.forall_mem_cons.mpr ⟨xML_p1_31, List.forall_mem_cons.mpr ⟨xML_p1_32, List.forall_mem_cons.mpr ⟨xML_p1_33, List.forall_mem_cons.mpr ⟨xML_p1_34, List.forall_mem_cons.mpr ⟨xML_p1_35, List.forall_mem_cons.mpr ⟨xML_p1_36, List.forall_mem_cons.mpr ⟨xML_p1_37, List.forall_mem_cons.mpr ⟨xML_p1_38, List.forall_mem_cons.mpr ⟨xML_p1_39, fun _ h => absurd h List.not_mem_nil⟩⟩⟩⟩⟩⟩⟩⟩⟩⟩⟩⟩⟩⟩⟩⟩⟩⟩⟩⟩⟩⟩⟩⟩⟩⟩⟩⟩⟩⟩⟩⟩⟩⟩⟩⟩⟩⟩⟩⟩
set_option maxRecDepth 100000 in
theorem xML_p2_0 : xm_mq (10, 39, 2, 26, 0, 4) := ⟨_, xc_26, rfl, rfl, rfl, xg_of (i := 401) rfl rfl, xg_of (i := 402) rfl rfl⟩
set_option maxRecDepth 100000 in
theorem xML_p2_1 : xm_mq (10, 46, 2, 284, 0, 13) := ⟨_, xc_284, rfl, rfl, rfl, xg_of (i := 421) rfl rfl, xg_of (i := 422) rfl rfl⟩
set_option maxRecDepth 100000 in
theorem xML_p2_2 : xm_mq (10, 61, 1, 65, 1, 10) := ⟨_, _, xc_65, rfl, rfl, by decide, xg_of (i := 474) rfl rfl, xg_of (i := 475) rfl rfl, xg_of (i := 476) rfl rfl⟩
set_option maxRecDepth 100000 in
theorem xML_p2_3 : xm_mq (10, 65, 0, 130, 3, 0) := ⟨_, xc_130, rfl, xg_of (i := 553) rfl rfl, xg_of (i := 554) rfl rfl⟩
set_option maxRecDepth 100000 in
theorem xML_p2_4 : xm_mq (10, 69, 1, 37, 1, 6) := ⟨_, _, xc_37, rfl, rfl, by decide, xg_of (i := 625) rfl rfl, xg_of (i := 626) rfl rfl, xg_of (i := 627) rfl rfl⟩
set_option maxRecDepth 100000 in
theorem xML_p2_5 : xm_mq (10, 77, 1, 6, 1, 3) := ⟨_, _, xc_6, rfl, rfl, by decide, xg_of (i := 838) rfl rfl, xg_of (i := 839) rfl rfl, xg_of (i := 840) rfl rfl⟩
set_option maxRecDepth 100000 in
theorem xML_p2_6 : xm_mq (10, 81, 1, 29, 0, 4) := ⟨_, _, xc_29, rfl, rfl, by decide, xg_of (i := 842) rfl rfl, xg_of (i := 843) rfl rfl, xg_of (i := 844) rfl rfl⟩
set_option maxRecDepth 100000 in
theorem xML_p2_7 : xm_mq (10, 104, 1, 126, 1, 0) := ⟨_, _, xc_126, rfl, rfl, by decide, xg_of (i := 854) rfl rfl, xg_of (i := 856) rfl rfl, xg_sel (i := 21) rfl⟩
set_option maxRecDepth 100000 in
theorem xML_p2_8 : xm_mq (10, 114, 1, 125, 1, 0) := ⟨_, _, xc_125, rfl, rfl, by decide, xg_of (i := 881) rfl rfl, xg_of (i := 883) rfl rfl, xg_sel (i := 22) rfl⟩
set_option maxRecDepth 100000 in
theorem xML_p2_9 : xm_mq (10, 120, 1, 7, 1, 3) := ⟨_, _, xc_7, rfl, rfl, by decide, xg_of (i := 893) rfl rfl, xg_of (i := 894) rfl rfl, xg_of (i := 895) rfl rfl⟩
set_option maxRecDepth 100000 in
theorem xML_p2_10 : xm_mq (10, 133, 1, 9, 1, 3) := ⟨_, _, xc_9, rfl, rfl, by decide, xg_of (i := 928) rfl rfl, xg_of (i := 929) rfl rfl, xg_of (i := 930) rfl rfl⟩
set_option maxRecDepth 100000 in
theorem xML_p2_11 : xm_mq (10, 142, 0, 129, 1, 0) := ⟨_, xc_129, rfl, xg_of (i := 946) rfl rfl, xg_of (i := 947) rfl rfl⟩
set_option maxRecDepth 100000 in
theorem xML_p2_12 : xm_mq (10, 145, 1, 13, 1, 3) := ⟨_, _, xc_13, rfl, rfl, by decide, xg_of (i := 949) rfl rfl, xg_of (i := 950) rfl rfl, xg_of (i := 951) rfl rfl⟩
set_option maxRecDepth 100000 in
theorem xML_p2_13 : xm_mq (10, 148, 1, 14, 4, 3) := ⟨_, _, xc_14, rfl, rfl, by decide, xg_of (i := 953) rfl rfl, xg_of (i := 954) rfl rfl, xg_of (i := 955) rfl rfl⟩
set_option maxRecDepth 100000 in
theorem xML_p2_14 : xm_mq (10, 159, 1, 15, 3, 3) := ⟨_, _, xc_15, rfl, rfl, by decide, xg_of (i := 970) rfl rfl, xg_of (i := 971) rfl rfl, xg_of (i := 972) rfl rfl⟩
set_option maxRecDepth 100000 in
theorem xML_p2_15 : xm_mq (10, 168, 1, 127, 1, 0) := ⟨_, _, xc_127, rfl, rfl, by decide, xg_of (i := 988) rfl rfl, xg_of (i := 990) rfl rfl, xg_sel (i := 24) rfl⟩
set_option maxRecDepth 100000 in
theorem xML_p2_16 : xm_mq (10, 171, 1, 17, 2, 3) := ⟨_, _, xc_17, rfl, rfl, by decide, xg_of (i := 992) rfl rfl, xg_of (i := 993) rfl rfl, xg_of (i := 994) rfl rfl⟩
set_option maxRecDepth 100000 in
theorem xML_p2_17 : xm_mq (10, 184, 1, 128, 1, 0) := ⟨_, _, xc_128, rfl, rfl, by decide, xg_of (i := 1017) rfl rfl, xg_of (i := 1019) rfl rfl, xg_sel (i := 26) rfl⟩
set_option maxRecDepth 100000 in
theorem xML_p2_18 : xm_mq (10, 187, 1, 21, 4, 3) := ⟨_, _, xc_21, rfl, rfl, by decide, xg_of (i := 1021) rfl rfl, xg_of (i := 1022) rfl rfl, xg_of (i := 1023) rfl rfl⟩
set_option maxRecDepth 100000 in
theorem xML_p2_19 : xm_mq (10, 190, 1, 23, 3, 3) := ⟨_, _, xc_23, rfl, rfl, by decide, xg_of (i := 1037) rfl rfl, xg_of (i := 1038) rfl rfl, xg_of (i := 1039) rfl rfl⟩
set_option maxRecDepth 100000 in
theorem xML_p2_20 : xm_mq (10, 194, 1, 62, 1, 8) := ⟨_, _, xc_62, rfl, rfl, by decide, xg_of (i := 1057) rfl rfl, xg_of (i := 511) rfl rfl, xg_of (i := 512) rfl rfl⟩
set_option maxRecDepth 100000 in
theorem xML_p2_21 : xm_mq (10, 198, 1, 98, 3, 0) := ⟨_, _, xc_98, rfl, rfl, by decide, xg_of (i := 1058) rfl rfl, xg_of (i := 1060) rfl rfl, xg_sel (i := 30) rfl⟩
set_option maxRecDepth 100000 in
theorem xML_p2_22 : xm_mq (10, 208, 1, 32, 2, 5) := ⟨_, _, xc_32, rfl, rfl, by decide, xg_of (i := 525) rfl rfl, xg_of (i := 526) rfl rfl, xg_of (i := 527) rfl rfl⟩
set_option maxRecDepth 100000 in
theorem xML_p2_23 : xm_mq (10, 214, 1, 61, 2, 8) := ⟨_, _, xc_61, rfl, rfl, by decide, xg_of (i := 1094) rfl rfl, xg_of (i := 1095) rfl rfl, xg_of (i := 1096) rfl rfl⟩
set_option maxRecDepth 100000 in
theorem xML_p2_24 : xm_mq (10, 217, 1, 33, 3, 5) := ⟨_, _, xc_33, rfl, rfl, by decide, xg_of (i := 1098) rfl rfl, xg_of (i := 1099) rfl rfl, xg_of (i := 1100) rfl rfl⟩
set_option maxRecDepth 100000 in
theorem xML_p2_25 : xm_mq (10, 220, 1, 19, 3, 3) := ⟨_, _, xc_19, rfl, rfl, by decide, xg_of (i := 1062) rfl rfl, xg_of (i := 1063) rfl rfl, xg_of (i := 1064) rfl rfl⟩
set_option maxRecDepth 100000 in
theorem xML_p2_26 : xm_mq (10, 223, 1, 11, 0, 3) := ⟨_, _, xc_11, rfl, rfl, by decide, xg_of (i := 1070) rfl rfl, xg_of (i := 1071) rfl rfl, xg_of (i := 1072) rfl rfl⟩
set_option maxRecDepth 100000 in
theorem xML_p2_27 : xm_mq (10, 231, 1, 27, 1, 4) := ⟨_, _, xc_27, rfl, rfl, by decide, xg_of (i := 1126) rfl rfl, xg_of (i := 1127) rfl rfl, xg_of (i := 1128) rfl rfl⟩
set_option maxRecDepth 100000 in
theorem xML_p2_28 : xm_mq (10, 241, 1, 2, 2, 2) := ⟨_, _, xc_2, rfl, rfl, by decide, xg_of (i := 1147) rfl rfl, xg_of (i := 1148) rfl rfl, xg_of (i := 1149) rfl rfl⟩
set_option maxRecDepth 100000 in
theorem xML_p2_29 : xm_mq (10, 244, 1, 102, 2, 0) := ⟨_, _, xc_102, rfl, rfl, by decide, xg_of (i := 1151) rfl rfl, xg_of (i := 1153) rfl rfl, xg_sel (i := 33) rfl⟩
set_option maxRecDepth 100000 in
theorem xML_p2_30 : xm_mq (10, 262, 1, 3, 2, 2) := ⟨_, _, xc_3, rfl, rfl, by decide, xg_of (i := 1155) rfl rfl, xg_of (i := 1156) rfl rfl, xg_of (i := 1157) rfl rfl⟩
set_option maxRecDepth 100000 in
theorem xML_p2_31 : xm_mq (10, 271, 1, 10, 1, 3) := ⟨_, _, xc_10, rfl, rfl, by decide, xg_of (i := 1167) rfl rfl, xg_of (i := 958) rfl rfl, xg_of (i := 959) rfl rfl⟩
set_option maxRecDepth 100000 in
theorem xML_p2_32 : xm_mq (10, 281, 1, 28, 1, 4) := ⟨_, _, xc_28, rfl, rfl, by decide, xg_of (i := 506) rfl rfl, xg_of (i := 507) rfl rfl, xg_of (i := 508) rfl rfl⟩
set_option maxRecDepth 100000 in
theorem xML_p2_33 : xm_mq (10, 289, 1, 31, 2, 5) := ⟨_, _, xc_31, rfl, rfl, by decide, xg_of (i := 1213) rfl rfl, xg_of (i := 1214) rfl rfl, xg_of (i := 1215) rfl rfl⟩
set_option maxRecDepth 100000 in
theorem xML_p2_34 : xm_mq (10, 292, 1, 35, 2, 5) := ⟨_, _, xc_35, rfl, rfl, by decide, xg_of (i := 1224) rfl rfl, xg_of (i := 1225) rfl rfl, xg_of (i := 1226) rfl rfl⟩
set_option maxRecDepth 100000 in
theorem xML_p2_35 : xm_mq (10, 295, 0, 124, 2, 0) := ⟨_, xc_124, rfl, xg_of (i := 1241) rfl rfl, xg_of (i := 1242) rfl rfl⟩
set_option maxRecDepth 100000 in
theorem xML_p2_36 : xm_mq (10, 302, 1, 34, 2, 5) := ⟨_, _, xc_34, rfl, rfl, by decide, xg_of (i := 533) rfl rfl, xg_of (i := 534) rfl rfl, xg_of (i := 535) rfl rfl⟩
set_option maxRecDepth 100000 in
theorem xML_p2_37 : xm_mq (10, 309, 1, 4, 3, 2) := ⟨_, _, xc_4, rfl, rfl, by decide, xg_of (i := 1265) rfl rfl, xg_of (i := 1266) rfl rfl, xg_of (i := 1267) rfl rfl⟩
set_option maxRecDepth 100000 in
theorem xML_p2_38 : xm_mq (10, 319, 1, 290, 1, 13) := ⟨_, _, xc_290, rfl, rfl, by decide, xg_of (i := 1277) rfl rfl, xg_of (i := 1278) rfl rfl, xg_of (i := 1279) rfl rfl⟩
set_option maxRecDepth 100000 in
theorem xML_p2_39 : xm_mq (10, 331, 1, 285, 1, 13) := ⟨_, _, xc_285, rfl, rfl, by decide, xg_of (i := 1493) rfl rfl, xg_of (i := 1293) rfl rfl, xg_of (i := 1294) rfl rfl⟩
def xML_2 : List (Nat × Nat × Nat × Nat × Nat × Nat) := [(10, 39, 2, 26, 0, 4), (10, 46, 2, 284, 0, 13), (10, 61, 1, 65, 1, 10), (10, 65, 0, 130, 3, 0), (10, 69, 1, 37, 1, 6), (10, 77, 1, 6, 1, 3), (10, 81, 1, 29, 0, 4), (10, 104, 1, 126, 1, 0), (10, 114, 1, 125, 1, 0), (10, 120, 1, 7, 1, 3), (10, 133, 1, 9, 1, 3), (10, 142, 0, 129, 1, 0), (10, 145, 1, 13, 1, 3), (10, 148, 1, 14, 4, 3), (10, 159, 1, 15, 3, 3), (10, 168, 1, 127, 1, 0), (10, 171, 1, 17, 2, 3), (10, 184, 1, 128, 1, 0), (10, 187, 1, 21, 4, 3), (10, 190, 1, 23, 3, 3), (10, 194, 1, 62, 1, 8), (10, 198, 1, 98, 3, 0), (10, 208, 1, 32, 2, 5), (10, 214, 1, 61, 2, 8), (10, 217, 1, 33, 3, 5), (10, 220, 1, 19, 3, 3), (10, 223, 1, 11, 0, 3), (10, 231, 1, 27, 1, 4), (10, 241, 1, 2, 2, 2), (10, 244, 1, 102, 2, 0), (10, 262, 1, 3, 2, 2), (10, 271, 1, 10, 1, 3), (10, 281, 1, 28, 1, 4), (10, 289, 1, 31, 2, 5), (10, 292, 1, 35, 2, 5), (10, 295, 0, 124, 2, 0), (10, 302, 1, 34, 2, 5), (10, 309, 1, 4, 3, 2), (10, 319, 1, 290, 1, 13), (10, 331, 1, 285, 1, 13)]
theorem xML_ok2 : ∀ q ∈ xML_2, xm_mq q := List.forall_mem_cons.mpr ⟨xML_p2_0, List.forall_mem_cons.mpr ⟨xML_p2_1, List.forall_mem_cons.mpr ⟨xML_p2_2, List.forall_mem_cons.mpr ⟨xML_p2_3, List.forall_mem_cons.mpr ⟨xML_p2_4, List.forall_mem_cons.mpr ⟨xML_p2_5, List.forall_mem_cons.mpr ⟨xML_p2_6, List.forall_mem_cons.mpr ⟨xML_p2_7, List.forall_mem_cons.mpr ⟨xML_p2_8, List.forall_mem_cons.mpr ⟨xML_p2_9, List.forall_mem_cons.mpr ⟨xML_p2_10, List.forall_mem_cons.mpr ⟨xML_p2_11, List.forall_mem_cons.mpr ⟨xML_p2_12, List.forall_mem_cons.mpr ⟨xML_p2_13, List.forall_mem_cons.mpr ⟨xML_p2_14, List.forall_mem_cons.mpr ⟨xML_p2_15, List.forall_mem_cons.mpr ⟨xML_p2_16, List.forall_mem_cons.mpr ⟨xML_p2_17, List.forall_mem_cons.mpr ⟨xML_p2_18, List.forall_mem_cons.mpr ⟨xML_p2_19, List.forall_mem_cons.mpr ⟨xML_p2_20, List.forall_mem_cons.mpr ⟨xML_p2_21, List.forall_mem_cons.mpr ⟨xML_p2_22, List.forall_mem_cons.mpr ⟨xML_p2_23, List.forall_mem_cons.mpr ⟨xML_p2_24, List.forall_mem_cons.mpr ⟨xML_p2_25, List.forall_mem_cons.mpr ⟨xML_p2_26, List.forall_mem_cons.mpr ⟨xML_p2_27, List.forall_mem_cons.mpr ⟨xML_p2_28, List.forall_mem_cons.mpr ⟨xML_p2_29, List.forall_mem_cons.mpr ⟨xML_p2_30, List.forall_mem_cons.mpr ⟨xML_p2_31, List.forall_mem_cons.mpr ⟨xML_p2_32, List.forall_mem_cons.mpr ⟨xML_p2_33, List.forall_mem_cons.mpr ⟨xML_p2_34, List.forall_mem_cons.mpr ⟨xML_p2_35, List.forall_mem_cons.mpr ⟨xML_p2_36, List.forall_mem_cons.mpr ⟨xML_p2_37, List.forall_mem_cons.mpr ⟨xML_p2_38, List.forall_mem_cons.mpr ⟨xML_p2_39, fun _ h => absurd h List.not_mem_nil⟩⟩⟩⟩⟩⟩⟩⟩⟩⟩⟩⟩⟩⟩⟩⟩⟩⟩⟩⟩⟩⟩⟩⟩⟩⟩⟩⟩⟩⟩⟩⟩⟩⟩⟩⟩⟩⟩⟩⟩
set_option maxRecDepth 100000 in
theorem xML_p3_0 : xm_mq (10, 334, 1, 286, 1, 13) := ⟨_, _, xc_286, rfl, rfl, by decide, xg_of (i := 1494) rfl rfl, xg_of (i := 1495) rfl rfl, xg_of (i := 1496) rfl rfl⟩
set_option maxRecDepth 100000 in
theorem xML_p3_1 : xm_mq (10, 337, 0, 123, 1, 0) := ⟨_, xc_123, rfl, xg_of (i := 1507) rfl rfl, xg_of (i := 1508) rfl rfl⟩
set_option maxRecDepth 100000 in
theorem xML_p3_2 : xm_mq (10, 343, 1, 287, 1, 13) := ⟨_, _, xc_287, rfl, rfl, by decide, xg_of (i := 1514) rfl rfl, xg_of (i := 1376) rfl rfl, xg_of (i := 1377) rfl rfl⟩
set_option maxRecDepth 100000 in
theorem xML_p3_3 : xm_mq (10, 352, 1, 291, 0, 13) := ⟨_, _, xc_291, rfl, rfl, by decide, xg_of (i := 1518) rfl rfl, xg_of (i := 1420) rfl rfl, xg_of (i := 2149) rfl rfl⟩
set_option maxRecDepth 100000 in
theorem xML_p3_4 : xm_mq (10, 358, 1, 289, 1, 13) := ⟨_, _, xc_289, rfl, rfl, by decide, xg_of (i := 1527) rfl rfl, xg_of (i := 1528) rfl rfl, xg_of (i := 1529) rfl rfl⟩
set_option maxRecDepth 100000 in
theorem xML_p3_5 : xm_mq (11, 1, 8, 0, 0, 0) := ⟨xg_of (i := 1542) rfl rfl, xg_of (i := 38) rfl rfl, xg_of (i := 39) rfl rfl⟩
set_option maxRecDepth 100000 in
theorem xML_p3_6 : xm_mq (11, 54, 1, 151, 0, 11) := ⟨_, _, xc_151, rfl, rfl, by decide, xg_of (i := 1543) rfl rfl, xg_of (i := 1545) rfl rfl, xg_sel (i := 34) rfl⟩
set_option maxRecDepth 100000 in
theorem xML_p3_7 : xm_mq (11, 57, 1, 152, 0, 11) := ⟨_, _, xc_152, rfl, rfl, by decide, xg_of (i := 1547) rfl rfl, xg_of (i := 1549) rfl rfl, xg_sel (i := 35) rfl⟩
set_option maxRecDepth 100000 in
theorem xML_p3_8 : xm_mq (11, 69, 1, 140, 1, 11) := ⟨_, _, xc_140, rfl, rfl, by decide, xg_of (i := 1662) rfl rfl, xg_of (i := 1664) rfl rfl, xg_sel (i := 37) rfl⟩
set_option maxRecDepth 100000 in
theorem xML_p3_9 : xm_mq (11, 79, 1, 142, 1, 11) := ⟨_, _, xc_142, rfl, rfl, by decide, xg_of (i := 1677) rfl rfl, xg_of (i := 1679) rfl rfl, xg_sel (i := 39) rfl⟩
set_option maxRecDepth 100000 in
theorem xML_p3_10 : xm_mq (11, 93, 0, 143, 1, 0) := ⟨_, xc_143, rfl, xg_of (i := 1681) rfl rfl, xg_of (i := 1682) rfl rfl⟩
set_option maxRecDepth 100000 in
theorem xML_p3_11 : xm_mq (11, 101, 0, 144, 1, 0) := ⟨_, xc_144, rfl, xg_of (i := 1686) rfl rfl, xg_of (i := 1687) rfl rfl⟩
set_option maxRecDepth 100000 in
theorem xML_p3_12 : xm_mq (11, 107, 1, 274, 0, 12) := ⟨_, _, xc_274, rfl, rfl, by decide, xg_of (i := 1698) rfl rfl, xg_of (i := 659) rfl rfl, xg_of (i := 660) rfl rfl⟩
set_option maxRecDepth 100000 in
theorem xML_p3_13 : xm_mq (11, 112, 1, 275, 1, 12) := ⟨_, _, xc_275, rfl, rfl, by decide, xg_of (i := 1699) rfl rfl, xg_of (i := 668) rfl rfl, xg_of (i := 669) rfl rfl⟩
set_option maxRecDepth 100000 in
theorem xML_p3_14 : xm_mq (11, 122, 1, 147, 1, 11) := ⟨_, _, xc_147, rfl, rfl, by decide, xg_of (i := 1712) rfl rfl, xg_of (i := 1714) rfl rfl, xg_sel (i := 45) rfl⟩
set_option maxRecDepth 100000 in
theorem xML_p3_15 : xm_mq (11, 125, 0, 133, 3, 0) := ⟨_, xc_133, rfl, xg_of (i := 1670) rfl rfl, xg_of (i := 1671) rfl rfl⟩
set_option maxRecDepth 100000 in
theorem xML_p3_16 : xm_mq (11, 132, 1, 145, 0, 11) := ⟨_, _, xc_145, rfl, rfl, by decide, xg_of (i := 1673) rfl rfl, xg_of (i := 1675) rfl rfl, xg_sel (i := 38) rfl⟩
set_option maxRecDepth 100000 in
theorem xML_p3_17 : xm_mq (11, 136, 1, 148, 2, 11) := ⟨_, _, xc_148, rfl, rfl, by decide, xg_of (i := 1708) rfl rfl, xg_of (i := 1710) rfl rfl, xg_sel (i := 44) rfl⟩
set_option maxRecDepth 100000 in
theorem xML_p3_18 : xm_mq (11, 140, 1, 172, 3, 11) := ⟨_, _, xc_172, rfl, rfl, by decide, xg_of (i := 1551) rfl rfl, xg_of (i := 1553) rfl rfl, xg_sel (i := 36) rfl⟩
set_option maxRecDepth 100000 in
theorem xML_p3_19 : xm_mq (11, 144, 1, 149, 3, 11) := ⟨_, _, xc_149, rfl, rfl, by decide, xg_of (i := 1704) rfl rfl, xg_of (i := 1706) rfl rfl, xg_sel (i := 43) rfl⟩
set_option maxRecDepth 100000 in
theorem xML_p3_20 : xm_mq (11, 150, 1, 146, 1, 11) := ⟨_, _, xc_146, rfl, rfl, by decide, xg_of (i := 1694) rfl rfl, xg_of (i := 1696) rfl rfl, xg_sel (i := 41) rfl⟩
set_option maxRecDepth 100000 in
theorem xML_p3_21 : xm_mq (11, 154, 0, 153, 3, 0) := ⟨_, xc_153, rfl, xg_of (i := 1732) rfl rfl, xg_of (i := 1733) rfl rfl⟩
set_option maxRecDepth 100000 in
theorem xML_p3_22 : xm_mq (11, 158, 1, 156, 2, 11) := ⟨_, _, xc_156, rfl, rfl, by decide, xg_of (i := 1727) rfl rfl, xg_of (i := 1729) rfl rfl, xg_sel (i := 48) rfl⟩
set_option maxRecDepth 100000 in
theorem xML_p3_23 : xm_mq (11, 162, 1, 158, 1, 11) := ⟨_, _, xc_158, rfl, rfl, by decide, xg_of (i := 1740) rfl rfl, xg_of (i := 1742) rfl rfl, xg_sel (i := 50) rfl⟩
set_option maxRecDepth 100000 in
theorem xML_p3_24 : xm_mq (11, 168, 1, 160, 0, 11) := ⟨_, _, xc_160, rfl, rfl, by decide, xg_of (i := 1749) rfl rfl, xg_of (i := 1751) rfl rfl, xg_sel (i := 52) rfl⟩
set_option maxRecDepth 100000 in
theorem xML_p3_25 : xm_mq (11, 179, 1, 154, 1, 11) := ⟨_, _, xc_154, rfl, rfl, by decide, xg_of (i := 1700) rfl rfl, xg_of (i := 1702) rfl rfl, xg_sel (i := 42) rfl⟩
set_option maxRecDepth 100000 in
theorem xML_p3_26 : xm_mq (11, 186, 1, 155, 0, 11) := ⟨_, _, xc_155, rfl, rfl, by decide, xg_of (i := 1718) rfl rfl, xg_of (i := 1720) rfl rfl, xg_sel (i := 46) rfl⟩
set_option maxRecDepth 100000 in
theorem xML_p3_27 : xm_mq (11, 191, 1, 157, 0, 11) := ⟨_, _, xc_157, rfl, rfl, by decide, xg_of (i := 1723) rfl rfl, xg_of (i := 1725) rfl rfl, xg_sel (i := 47) rfl⟩
set_option maxRecDepth 100000 in
theorem xML_p3_28 : xm_mq (11, 196, 1, 159, 0, 11) := ⟨_, _, xc_159, rfl, rfl, by decide, xg_of (i := 1736) rfl rfl, xg_of (i := 1738) rfl rfl, xg_sel (i := 49) rfl⟩
set_option maxRecDepth 100000 in
theorem xML_p3_29 : xm_mq (11, 201, 1, 161, 0, 11) := ⟨_, _, xc_161, rfl, rfl, by decide, xg_of (i := 1745) rfl rfl, xg_of (i := 1747) rfl rfl, xg_sel (i := 51) rfl⟩
set_option maxRecDepth 100000 in
theorem xML_p3_30 : xm_mq (11, 206, 1, 162, 0, 11) := ⟨_, _, xc_162, rfl, rfl, by decide, xg_of (i := 1757) rfl rfl, xg_of (i := 1759) rfl rfl, xg_sel (i := 53) rfl⟩
set_option maxRecDepth 100000 in
theorem xML_p3_31 : xm_mq (11, 209, 1, 163, 0, 11) := ⟨_, _, xc_163, rfl, rfl, by decide, xg_of (i := 1689) rfl rfl, xg_of (i := 1691) rfl rfl, xg_sel (i := 40) rfl⟩
set_option maxRecDepth 100000 in
theorem xML_p3_32 : xm_mq (11, 212, 1, 150, 0, 11) := ⟨_, _, xc_150, rfl, rfl, by decide, xg_of (i := 1761) rfl rfl, xg_of (i := 1763) rfl rfl, xg_sel (i := 54) rfl⟩
set_option maxRecDepth 100000 in
theorem xML_p3_33 : xm_mq (11, 220, 1, 171, 2, 11) := ⟨_, _, xc_171, rfl, rfl, by decide, xg_of (i := 1809) rfl rfl, xg_of (i := 1811) rfl rfl, xg_sel (i := 59) rfl⟩
set_option maxRecDepth 100000 in
theorem xML_p3_34 : xm_mq (11, 224, 1, 168, 1, 11) := ⟨_, _, xc_168, rfl, rfl, by decide, xg_of (i := 1789) rfl rfl, xg_of (i := 1791) rfl rfl, xg_sel (i := 55) rfl⟩
set_option maxRecDepth 100000 in
theorem xML_p3_35 : xm_mq (11, 227, 1, 134, 1, 11) := ⟨_, _, xc_134, rfl, rfl, by decide, xg_of (i := 1793) rfl rfl, xg_of (i := 1795) rfl rfl, xg_sel (i := 56) rfl⟩
set_option maxRecDepth 100000 in
theorem xML_p3_36 : xm_mq (11, 231, 1, 167, 1, 11) := ⟨_, _, xc_167, rfl, rfl, by decide, xg_of (i := 1805) rfl rfl, xg_of (i := 1807) rfl rfl, xg_sel (i := 58) rfl⟩
set_option maxRecDepth 100000 in
theorem xML_p3_37 : xm_mq (11, 234, 1, 180, 2, 11) := ⟨_, _, xc_180, rfl, rfl, by decide, xg_of (i := 1801) rfl rfl, xg_of (i := 1803) rfl rfl, xg_sel (i := 57) rfl⟩
set_option maxRecDepth 100000 in
theorem xML_p3_38 : xm_mq (11, 237, 1, 173, 1, 11) := ⟨_, _, xc_173, rfl, rfl, by decide, xg_of (i := 1817) rfl rfl, xg_of (i := 1819) rfl rfl, xg_sel (i := 60) rfl⟩
set_option maxRecDepth 100000 in
theorem xML_p3_39 : xm_mq (11, 240, 1, 174, 1, 11) := ⟨_, _, xc_174, rfl, rfl, by decide, xg_of (i := 1837) rfl rfl, xg_of (i := 1839) rfl rfl, xg_sel (i := 61) rfl⟩
def xML_3 : List (Nat × Nat × Nat × Nat × Nat × Nat) := [(10, 334, 1, 286, 1, 13), (10, 337, 0, 123, 1, 0), (10, 343, 1, 287, 1, 13), (10, 352, 1, 291, 0, 13), (10, 358, 1, 289, 1, 13), (11, 1, 8, 0, 0, 0), (11, 54, 1, 151, 0, 11), (11, 57, 1, 152, 0, 11), (11, 69, 1, 140, 1, 11), (11, 79, 1, 142, 1, 11), (11, 93, 0, 143, 1, 0), (11, 101, 0, 144, 1, 0), (11, 107, 1, 274, 0, 12), (11, 112, 1, 275, 1, 12), (11, 122, 1, 147, 1, 11), (11, 125, 0, 133, 3, 0), (11, 132, 1, 145, 0, 11), (11, 136, 1, 148, 2, 11), (11, 140, 1, 172, 3, 11), (11, 144, 1, 149, 3, 11), (11, 150, 1, 146, 1, 11), (11, 154, 0, 153, 3, 0), (11, 158, 1, 156, 2, 11), (11, 162, 1, 158, 1, 11), (11, 168, 1, 160, 0, 11), (11, 179, 1, 154, 1, 11), (11, 186, 1, 155, 0, 11), (11, 191, 1, 157, 0, 11), (11, 196, 1, 159, 0, 11), (11, 201, 1, 161, 0, 11), (11, 206, 1, 162, 0, 11), (11, 209, 1, 163, 0, 11), (11, 212, 1, 150, 0, 11), (11, 220, 1, 171, 2, 11), (11, 224, 1, 168, 1, 11), (11, 227, 1, 134, 1, 11), (11, 231, 1, 167, 1, 11), (11, 234, 1, 180, 2, 11), (11, 237, 1, 173, 1, 11), (11, 240, 1, 174, 1, 11)]
theorem xML_ok3 : ∀ q ∈ xML_3, xm_mq q := List.forall_mem_cons.mpr ⟨xML_p3_0, List.forall_mem_cons.mpr ⟨xML_p3_1, List.forall_mem_cons.mpr ⟨xML_p3_2, List.forall_mem_cons.mpr ⟨xML_p3_3, List.forall_mem_cons.mpr ⟨xML_p3_4, List.forall_mem_cons.mpr ⟨xML_p3_5, List.forall_mem_cons.mpr ⟨xML_p3_6, List.forall_mem_cons.mpr ⟨xML_p3_7, List.forall_mem_cons.mpr ⟨xML_p3_8, List.forall_mem_cons.mpr ⟨xML_p3_9, List.forall_mem_cons.mpr ⟨xML_p3_10, List.forall_mem_cons.mpr ⟨xML_p3_11, List.forall_mem_cons.mpr ⟨xML_p3_12, List.forall_mem_cons.mpr ⟨xML_p3_13, List.forall_mem_cons.mpr ⟨xML_p3_14, List.forall_mem_cons.mpr ⟨xML_p3_15, List.forall_mem_cons.mpr ⟨xML_p3_16, List.forall_mem_cons.mpr ⟨xML_p3_17, List.forall_mem_cons.mpr ⟨xML_p3_18, List.forall_mem_cons.mpr ⟨xML_p3_19, List.forall_mem_cons.mpr ⟨xML_p3_20, List.forall_mem_cons.mpr ⟨xML_p3_21, List.forall_mem_cons.mpr ⟨xML_p3_22, List.forall_mem_cons.mpr ⟨xML_p3_23, List.forall_mem_cons.mpr ⟨xML_p3_24, List.forall_mem_cons.mpr ⟨xML_p3_25, List.forall_mem_cons.mpr ⟨xML_p3_26, List.forall_mem_cons.mpr ⟨xML_p3_27, List.forall_mem_cons.mpr ⟨xML_p3_28, List.forall_mem_cons.mpr ⟨xML_p3_29, List.forall_mem_cons.mpr ⟨xML_p3_30, List.forall_mem_cons.mpr ⟨xML_p3_31, List.forall_mem_cons.mpr ⟨xML_p3_32, List.forall_mem_cons.mpr ⟨xML_p3_33, List.forall_mem_cons.mpr ⟨xML_p3_34, List.forall_mem_cons.mpr ⟨xML_p3_35, List.forall_mem_cons.mpr ⟨xML_p3_36, List.forall_mem_cons.mpr ⟨xML_p3_37, List.forall_mem_cons.mpr ⟨xML_p3_38, List.forall_mem_cons.mpr ⟨xML_p3_39, fun _ h => absurd h List.not_mem_nil⟩⟩⟩⟩⟩⟩⟩⟩⟩⟩⟩⟩⟩⟩⟩⟩⟩⟩⟩⟩⟩⟩⟩⟩⟩⟩⟩⟩⟩⟩⟩⟩⟩⟩⟩⟩⟩⟩⟩⟩
set_option maxRecDepth 100000 in
theorem xML_p4_0 : xm_mq (11, 243, 1, 189, 2, 11) := ⟨_, _, xc_189, rfl, rfl, by decide, xg_of (i := 1873) rfl rfl, xg_of (i := 1875) rfl rfl, xg_sel (i := 66) rfl⟩
set_option maxRecDepth 100000 in
theorem xML_p4_1 : xm_mq (11, 246, 1, 175, 1, 11) := ⟨_, _, xc_175, rfl, rfl, by decide, xg_of (i := 1865) rfl rfl, xg_of (i := 1867) rfl rfl, xg_sel (i := 64) rfl⟩
set_option maxRecDepth 100000 in
theorem xML_p4_2 : xm_mq (11, 249, 1, 190, 2, 11) := ⟨_, _, xc_190, rfl, rfl, by decide, xg_of (i := 1869) rfl rfl, xg_of (i := 1871) rfl rfl, xg_sel (i := 65) rfl⟩
set_option maxRecDepth 100000 in
theorem xML_p4_3 : xm_mq (11, 258, 0, 270, 2, 0) := ⟨_, xc_270, rfl, xg_of (i := 1897) rfl rfl, xg_of (i := 1001) rfl rfl⟩
set_option maxRecDepth 100000 in
theorem xML_p4_4 : xm_mq (11, 263, 1, 191, 3, 11) := ⟨_, _, xc_191, rfl, rfl, by decide, xg_of (i := 1861) rfl rfl, xg_of (i := 1863) rfl rfl, xg_sel (i := 63) rfl⟩
set_option maxRecDepth 100000 in
theorem xML_p4_5 : xm_mq (11, 267, 1, 192, 1, 11) := ⟨_, _, xc_192, rfl, rfl, by decide, xg_of (i := 1885) rfl rfl, xg_of (i := 1887) rfl rfl, xg_sel (i := 68) rfl⟩
set_option maxRecDepth 100000 in
theorem xML_p4_6 : xm_mq (11, 270, 1, 193, 1, 11) := ⟨_, _, xc_193, rfl, rfl, by decide, xg_of (i := 1889) rfl rfl, xg_of (i := 1891) rfl rfl, xg_sel (i := 69) rfl⟩
set_option maxRecDepth 100000 in
theorem xML_p4_7 : xm_mq (11, 273, 1, 194, 3, 11) := ⟨_, _, xc_194, rfl, rfl, by decide, xg_of (i := 1893) rfl rfl, xg_of (i := 1895) rfl rfl, xg_sel (i := 70) rfl⟩
set_option maxRecDepth 100000 in
theorem xML_p4_8 : xm_mq (11, 276, 0, 271, 2, 0) := ⟨_, xc_271, rfl, xg_of (i := 1958) rfl rfl, xg_of (i := 635) rfl rfl⟩
set_option maxRecDepth 100000 in
theorem xML_p4_9 : xm_mq (11, 279, 1, 197, 1, 11) := ⟨_, _, xc_197, rfl, rfl, by decide, xg_of (i := 1954) rfl rfl, xg_of (i := 1956) rfl rfl, xg_sel (i := 79) rfl⟩
set_option maxRecDepth 100000 in
theorem xML_p4_10 : xm_mq (11, 282, 0, 169, 1, 0) := ⟨_, xc_169, rfl, xg_of (i := 1853) rfl rfl, xg_of (i := 1854) rfl rfl⟩
set_option maxRecDepth 100000 in
theorem xML_p4_11 : xm_mq (11, 285, 1, 170, 1, 11) := ⟨_, _, xc_170, rfl, rfl, by decide, xg_of (i := 1914) rfl rfl, xg_of (i := 1916) rfl rfl, xg_sel (i := 72) rfl⟩
set_option maxRecDepth 100000 in
theorem xML_p4_12 : xm_mq (11, 288, 1, 135, 2, 11) := ⟨_, _, xc_135, rfl, rfl, by decide, xg_of (i := 1857) rfl rfl, xg_of (i := 1859) rfl rfl, xg_sel (i := 62) rfl⟩
set_option maxRecDepth 100000 in
theorem xML_p4_13 : xm_mq (11, 291, 1, 195, 3, 11) := ⟨_, _, xc_195, rfl, rfl, by decide, xg_of (i := 1881) rfl rfl, xg_of (i := 1883) rfl rfl, xg_sel (i := 67) rfl⟩
set_option maxRecDepth 100000 in
theorem xML_p4_14 : xm_mq (11, 294, 1, 199, 2, 11) := ⟨_, _, xc_199, rfl, rfl, by decide, xg_of (i := 1910) rfl rfl, xg_of (i := 1912) rfl rfl, xg_sel (i := 71) rfl⟩
set_option maxRecDepth 100000 in
theorem xML_p4_15 : xm_mq (11, 297, 1, 204, 1, 11) := ⟨_, _, xc_204, rfl, rfl, by decide, xg_of (i := 1918) rfl rfl, xg_of (i := 1920) rfl rfl, xg_sel (i := 73) rfl⟩
set_option maxRecDepth 100000 in
theorem xML_p4_16 : xm_mq (11, 300, 1, 206, 0, 11) := ⟨_, _, xc_206, rfl, rfl, by decide, xg_of (i := 1926) rfl rfl, xg_of (i := 1928) rfl rfl, xg_sel (i := 74) rfl⟩
set_option maxRecDepth 100000 in
theorem xML_p4_17 : xm_mq (11, 303, 1, 196, 1, 11) := ⟨_, _, xc_196, rfl, rfl, by decide, xg_of (i := 1946) rfl rfl, xg_of (i := 1948) rfl rfl, xg_sel (i := 77) rfl⟩
set_option maxRecDepth 100000 in
theorem xML_p4_18 : xm_mq (11, 306, 1, 198, 0, 11) := ⟨_, _, xc_198, rfl, rfl, by decide, xg_of (i := 1950) rfl rfl, xg_of (i := 1952) rfl rfl, xg_sel (i := 78) rfl⟩
set_option maxRecDepth 100000 in
theorem xML_p4_19 : xm_mq (11, 311, 1, 209, 2, 11) := ⟨_, _, xc_209, rfl, rfl, by decide, xg_of (i := 1934) rfl rfl, xg_of (i := 1936) rfl rfl, xg_sel (i := 75) rfl⟩
set_option maxRecDepth 100000 in
theorem xML_p4_20 : xm_mq (11, 314, 0, 137, 2, 0) := ⟨_, xc_137, rfl, xg_of (i := 1939) rfl rfl, xg_of (i := 1940) rfl rfl⟩
set_option maxRecDepth 100000 in
theorem xML_p4_21 : xm_mq (11, 318, 1, 208, 3, 11) := ⟨_, _, xc_208, rfl, rfl, by decide, xg_of (i := 1942) rfl rfl, xg_of (i := 1944) rfl rfl, xg_sel (i := 76) rfl⟩
set_option maxRecDepth 100000 in
theorem xML_p4_22 : xm_mq (11, 321, 1, 212, 1, 11) := ⟨_, _, xc_212, rfl, rfl, by decide, xg_of (i := 1967) rfl rfl, xg_of (i := 1969) rfl rfl, xg_sel (i := 80) rfl⟩
set_option maxRecDepth 100000 in
theorem xML_p4_23 : xm_mq (11, 326, 1, 136, 3, 11) := ⟨_, _, xc_136, rfl, rfl, by decide, xg_of (i := 1976) rfl rfl, xg_of (i := 1978) rfl rfl, xg_sel (i := 81) rfl⟩
set_option maxRecDepth 100000 in
theorem xML_p4_24 : xm_mq (11, 329, 1, 138, 0, 11) := ⟨_, _, xc_138, rfl, rfl, by decide, xg_of (i := 1980) rfl rfl, xg_of (i := 1982) rfl rfl, xg_sel (i := 82) rfl⟩
set_option maxRecDepth 100000 in
theorem xML_p4_25 : xm_mq (11, 336, 1, 216, 2, 11) := ⟨_, _, xc_216, rfl, rfl, by decide, xg_of (i := 2002) rfl rfl, xg_of (i := 2004) rfl rfl, xg_sel (i := 85) rfl⟩
set_option maxRecDepth 100000 in
theorem xML_p4_26 : xm_mq (11, 339, 1, 217, 2, 11) := ⟨_, _, xc_217, rfl, rfl, by decide, xg_of (i := 1998) rfl rfl, xg_of (i := 2000) rfl rfl, xg_sel (i := 84) rfl⟩
set_option maxRecDepth 100000 in
theorem xML_p4_27 : xm_mq (11, 342, 1, 218, 1, 11) := ⟨_, _, xc_218, rfl, rfl, by decide, xg_of (i := 1994) rfl rfl, xg_of (i := 1996) rfl rfl, xg_sel (i := 83) rfl⟩
set_option maxRecDepth 100000 in
theorem xML_p4_28 : xm_mq (11, 345, 1, 220, 1, 11) := ⟨_, _, xc_220, rfl, rfl, by decide, xg_of (i := 2006) rfl rfl, xg_of (i := 2008) rfl rfl, xg_sel (i := 86) rfl⟩
set_option maxRecDepth 100000 in
theorem xML_p4_29 : xm_mq (11, 348, 1, 222, 2, 11) := ⟨_, _, xc_222, rfl, rfl, by decide, xg_of (i := 2014) rfl rfl, xg_of (i := 2016) rfl rfl, xg_sel (i := 87) rfl⟩
set_option maxRecDepth 100000 in
theorem xML_p4_30 : xm_mq (11, 357, 1, 232, 1, 11) := ⟨_, _, xc_232, rfl, rfl, by decide, xg_of (i := 2057) rfl rfl, xg_of (i := 2059) rfl rfl, xg_sel (i := 88) rfl⟩
set_option maxRecDepth 100000 in
theorem xML_p4_31 : xm_mq (11, 360, 1, 236, 1, 11) := ⟨_, _, xc_236, rfl, rfl, by decide, xg_of (i := 2073) rfl rfl, xg_of (i := 2075) rfl rfl, xg_sel (i := 89) rfl⟩
set_option maxRecDepth 100000 in
theorem xML_p4_32 : xm_mq (11, 363, 1, 240, 2, 11) := ⟨_, _, xc_240, rfl, rfl, by decide, xg_of (i := 2093) rfl rfl, xg_of (i := 2095) rfl rfl, xg_sel (i := 91) rfl⟩
set_option maxRecDepth 100000 in
theorem xML_p4_33 : xm_mq (11, 367, 1, 219, 1, 11) := ⟨_, _, xc_219, rfl, rfl, by decide, xg_of (i := 2097) rfl rfl, xg_of (i := 2099) rfl rfl, xg_sel (i := 92) rfl⟩
set_option maxRecDepth 100000 in
theorem xML_p4_34 : xm_mq (11, 370, 1, 241, 3, 11) := ⟨_, _, xc_241, rfl, rfl, by decide, xg_of (i := 2089) rfl rfl, xg_of (i := 2091) rfl rfl, xg_sel (i := 90) rfl⟩
set_option maxRecDepth 100000 in
theorem xML_p4_35 : xm_mq (11, 377, 1, 244, 1, 11) := ⟨_, _, xc_244, rfl, rfl, by decide, xg_of (i := 2114) rfl rfl, xg_of (i := 2116) rfl rfl, xg_sel (i := 94) rfl⟩
set_option maxRecDepth 100000 in
theorem xML_p4_36 : xm_mq (11, 382, 1, 247, 1, 11) := ⟨_, _, xc_247, rfl, rfl, by decide, xg_of (i := 2109) rfl rfl, xg_of (i := 2111) rfl rfl, xg_sel (i := 93) rfl⟩
set_option maxRecDepth 100000 in
theorem xML_p4_37 : xm_mq (11, 386, 0, 248, 1, 0) := ⟨_, xc_248, rfl, xg_of (i := 2118) rfl rfl, xg_of (i := 2119) rfl rfl⟩
set_option maxRecDepth 100000 in
theorem xML_p4_38 : xm_mq (11, 390, 1, 245, 1, 11) := ⟨_, _, xc_245, rfl, rfl, by decide, xg_of (i := 2121) rfl rfl, xg_of (i := 2123) rfl rfl, xg_sel (i := 95) rfl⟩
set_option maxRecDepth 100000 in
theorem xML_p4_39 : xm_mq (11, 396, 1, 246, 1, 11) := ⟨_, _, xc_246, rfl, rfl, by decide, xg_of (i := 2126) rfl rfl, xg_of (i := 2128) rfl rfl, xg_sel (i := 96) rfl⟩
def xML_4 : List (Nat × Nat × Nat × Nat × Nat × Nat) := [(11, 243, 1, 189, 2, 11), (11, 246, 1, 175, 1, 11), (11, 249, 1, 190, 2, 11), (11, 258, 0, 270, 2, 0), (11, 263, 1, 191, 3, 11), (11, 267, 1, 192, 1, 11), (11, 270, 1, 193, 1, 11), (11, 273, 1, 194, 3, 11), (11, 276, 0, 271, 2, 0), (11, 279, 1, 197, 1, 11), (11, 282, 0, 169, 1, 0), (11, 285, 1, 170, 1, 11), (11, 288, 1, 135, 2, 11), (11, 291, 1, 195, 3, 11), (11, 294, 1, 199, 2, 11), (11, 297, 1, 204, 1, 11), (11, 300, 1, 206, 0, 11), (11, 303, 1, 196, 1, 11), (11, 306, 1, 198, 0, 11), (11, 311, 1, 209, 2, 11), (11, 314, 0, 137, 2, 0), (11, 318, 1, 208, 3, 11), (11, 321, 1, 212, 1, 11), (11, 326, 1, 136, 3, 11), (11, 329, 1, 138, 0, 11), (11, 336, 1, 216, 2, 11), (11, 339, 1, 217, 2, 11), (11, 342, 1, 218, 1, 11), (11, 345, 1, 220, 1, 11), (11, 348, 1, 222, 2, 11), (11, 357, 1, 232, 1, 11), (11, 360, 1, 236, 1, 11), (11, 363, 1, 240, 2, 11), (11, 367, 1, 219, 1, 11), (11, 370, 1, 241, 3, 11), (11, 377, 1, 244, 1, 11), (11, 382, 1, 247, 1, 11), (11, 386, 0, 248, 1, 0), (11, 390, 1, 245, 1, 11), (11, 396, 1, 246, 1, 11)]
theorem xML_ok4 : ∀ q ∈ xML_4, xm_mq q := List.forall_mem_cons.mpr ⟨xML_p4_0, List.forall_mem_cons.mpr ⟨xML_p4_1, List.forall_mem_cons.mpr ⟨xML_p4_2, List.forall_mem_cons.mpr ⟨xML_p4_3, List.forall_mem_cons.mpr ⟨xML_p4_4, List.forall_mem_cons.mpr ⟨xML_p4_5, List.forall_mem_cons.mpr ⟨xML_p4_6, List.forall_mem_cons.mpr ⟨xML_p4_7, List.forall_mem_cons.mpr ⟨xML_p4_8, List.forall_mem_cons.mpr ⟨xML_p4_9, List.forall_mem_cons.mpr ⟨xML_p4_10, List.forall_mem_cons.mpr ⟨xML_p4_11, List.forall_mem_cons.mpr ⟨xML_p4_12, List.forall_mem_cons.mpr ⟨xML_p4_13, List.forall_mem_cons.mpr ⟨xML_p4_14, List.forall_mem_cons.mpr ⟨xML_p4_15, List.forall_mem_cons.mpr ⟨xML_p4_16, List.forall_mem_cons.mpr ⟨xML_p4_17, List.forall_mem_cons.mpr ⟨xML_p4_18, List.forall_mem_cons.mpr ⟨xML_p4_19, List.forall_mem_cons.mpr ⟨xML_p4_20, List.forall_mem_cons.mpr ⟨xML_p4_21, List.forall_mem_cons.mpr ⟨xML_p4_22, List.forall_mem_cons.mpr ⟨xML_p4_23, List.forall_mem_cons.mpr ⟨xML_p4_24, List.forall_mem_cons.mpr ⟨xML_p4_25, List.forall_mem_cons.mpr ⟨xML_p4_26, List.forall_mem_cons.mpr ⟨xML_p4_27, List.forall_mem_cons.mpr ⟨xML_p4_28, List.forall_mem_cons.mpr ⟨xML_p4_29, List.forall_mem_cons.mpr ⟨xML_p4_30, List.forall_mem_cons.mpr ⟨xML_p4_31, List.forall_mem_cons.mpr ⟨xML_p4_32, List.forall_mem_cons.mpr ⟨xML_p4_33, List.forall_mem_cons.mpr ⟨xML_p4_34, List.forall_mem_cons.mpr ⟨xML_p4_35, List.forall_mem_cons.mpr ⟨xML_p4_36, List.forall_mem_cons.mpr ⟨xML_p4_37, List.forall_mem_cons.mpr ⟨xML_p4_38, List.forall_mem_cons.mpr ⟨xML_p4_39, fun _ h => absurd h List.not_mem_nil⟩⟩⟩⟩⟩⟩⟩⟩⟩⟩⟩⟩⟩⟩⟩⟩⟩⟩⟩⟩⟩⟩⟩⟩⟩⟩⟩⟩⟩⟩⟩⟩⟩⟩⟩⟩⟩⟩⟩⟩
set_option maxRecDepth 100000 in
theorem xML_p5_0 : xm_mq (12, 3, 8, 0, 0, 0) := ⟨xg_of (i := 427) rfl rfl, xg_of (i := 38) rfl rfl, xg_of (i := 39) rfl rfl⟩
set_option maxRecDepth 100000 in
theorem xML_p5_1 : xm_mq (12, 26, 0, 297, 1, 0) := ⟨_, xc_297, rfl, xg_of (i := 430) rfl rfl, xg_of (i := 431) rfl rfl⟩
set_option maxRecDepth 100000 in
theorem xML_p5_2 : xm_mq (12, 32, 1, 274, 0, 12) := ⟨_, _, xc_274, rfl, rfl, by decide, xg_of (i := 1349) rfl rfl, xg_of (i := 659) rfl rfl, xg_of (i := 660) rfl rfl⟩
set_option maxRecDepth 100000 in
theorem xML_p5_3 : xm_mq (12, 40, 1, 279, 0, 12) := ⟨_, _, xc_279, rfl, rfl, by decide, xg_of (i := 1358) rfl rfl, xg_of (i := 663) rfl rfl, xg_of (i := 664) rfl rfl⟩
set_option maxRecDepth 100000 in
theorem xML_p5_4 : xm_mq (12, 83, 6, 263, 0, 13) := ⟨_, _, _, xc_263, rfl, rfl, by decide, xg_of (i := 1332) rfl rfl, xg_of (i := 1334) rfl rfl, xg_of (i := 1335) rfl rfl, xg_of (i := 1333) rfl rfl, rfl, rfl⟩
set_option maxRecDepth 100000 in
theorem xML_p5_5 : xm_mq (12, 108, 0, 320, 2, 0) := ⟨_, xc_320, rfl, xg_of (i := 1320) rfl rfl, xg_of (i := 1321) rfl rfl⟩
set_option maxRecDepth 100000 in
theorem xML_p5_6 : xm_mq (12, 114, 0, 324, 3, 0) := ⟨_, xc_324, rfl, xg_of (i := 1311) rfl rfl, xg_of (i := 1312) rfl rfl⟩
set_option maxRecDepth 100000 in
theorem xML_p5_7 : xm_mq (12, 125, 0, 296, 5, 0) := ⟨_, xc_296, rfl, xg_of (i := 1363) rfl rfl, xg_of (i := 1364) rfl rfl⟩
set_option maxRecDepth 100000 in
theorem xML_p5_8 : xm_mq (12, 133, 0, 295, 3, 0) := ⟨_, xc_295, rfl, xg_of (i := 1454) rfl rfl, xg_of (i := 1455) rfl rfl⟩
set_option maxRecDepth 100000 in
theorem xML_p5_9 : xm_mq (12, 137, 0, 308, 3, 0) := ⟨_, xc_308, rfl, xg_of (i := 1489) rfl rfl, xg_of (i := 1490) rfl rfl⟩
set_option maxRecDepth 100000 in
theorem xML_p5_10 : xm_mq (12, 138, 0, 271, 2, 0) := ⟨_, xc_271, rfl, xg_of (i := 1534) rfl rfl, xg_of (i := 635) rfl rfl⟩
set_option maxRecDepth 100000 in
theorem xML_p5_11 : xm_mq (12, 144, 0, 281, 2, 0) := ⟨_, xc_281, rfl, xg_of (i := 1535) rfl rfl, xg_of (i := 679) rfl rfl⟩
set_option maxRecDepth 100000 in
theorem xML_p5_12 : xm_mq (12, 148, 0, 300, 2, 0) := ⟨_, xc_300, rfl, xg_of (i := 1536) rfl rfl, xg_of (i := 697) rfl rfl⟩
set_option maxRecDepth 100000 in
theorem xML_p5_13 : xm_mq (12, 191, 0, 294, 1, 0) := ⟨_, xc_294, rfl, xg_of (i := 1501) rfl rfl, xg_of (i := 1502) rfl rfl⟩
set_option maxRecDepth 100000 in
theorem xML_p5_14 : xm_mq (12, 197, 0, 309, 3, 0) := ⟨_, xc_309, rfl, xg_of (i := 1504) rfl rfl, xg_of (i := 1505) rfl rfl⟩
set_option maxRecDepth 100000 in
theorem xML_p5_15 : xm_mq (12, 226, 0, 311, 6, 0) := ⟨_, xc_311, rfl, xg_of (i := 1337) rfl rfl, xg_of (i := 1338) rfl rfl⟩
set_option maxRecDepth 100000 in
theorem xML_p5_16 : xm_mq (12, 245, 0, 268, 1, 0) := ⟨_, xc_268, rfl, xg_of (i := 1382) rfl rfl, xg_of (i := 1383) rfl rfl⟩
set_option maxRecDepth 100000 in
theorem xML_p5_17 : xm_mq (12, 248, 0, 267, 3, 0) := ⟨_, xc_267, rfl, xg_of (i := 1385) rfl rfl, xg_of (i := 1386) rfl rfl⟩
set_option maxRecDepth 100000 in
theorem xML_p5_18 : xm_mq (12, 251, 0, 310, 4, 0) := ⟨_, xc_310, rfl, xg_of (i := 1392) rfl rfl, xg_of (i := 1393) rfl rfl⟩
set_option maxRecDepth 100000 in
theorem xML_p5_19 : xm_mq (12, 399, 1, 276, 3, 12) := ⟨_, _, xc_276, rfl, rfl, by decide, xg_of (i := 1369) rfl rfl, xg_of (i := 1370) rfl rfl, xg_of (i := 1371) rfl rfl⟩
set_option maxRecDepth 100000 in
theorem xML_p5_20 : xm_mq (13, 12, 2, 284, 0, 13) := ⟨_, xc_284, rfl, rfl, rfl, xg_of (i := 1481) rfl rfl, xg_of (i := 422) rfl rfl⟩
set_option maxRecDepth 100000 in
theorem xML_p5_21 : xm_mq (13, 15, 1, 285, 1, 13) := ⟨_, _, xc_285, rfl, rfl, by decide, xg_of (i := 1483) rfl rfl, xg_of (i := 1293) rfl rfl, xg_of (i := 1294) rfl rfl⟩
set_option maxRecDepth 100000 in
theorem xML_p5_22 : xm_mq (13, 19, 1, 287, 1, 13) := ⟨_, _, xc_287, rfl, rfl, by decide, xg_of (i := 1484) rfl rfl, xg_of (i := 1376) rfl rfl, xg_of (i := 1377) rfl rfl⟩
set_option maxRecDepth 100000 in
theorem xML_p5_23 : xm_mq (13, 22, 1, 288, 0, 13) := ⟨_, _, xc_288, rfl, rfl, by decide, xg_of (i := 1485) rfl rfl, xg_of (i := 1401) rfl rfl, xg_of (i := 1402) rfl rfl⟩
set_option maxRecDepth 100000 in
theorem xML_p5_24 : xm_mq (16, 1, 8, 0, 0, 0) := ⟨xg_of (i := 766) rfl rfl, xg_of (i := 38) rfl rfl, xg_of (i := 39) rfl rfl⟩
set_option maxRecDepth 100000 in
theorem xML_p5_25 : xm_mq (16, 27, 2, 277, 4, 12) := ⟨_, xc_277, rfl, rfl, rfl, xg_of (i := 763) rfl rfl, xg_of (i := 764) rfl rfl⟩
set_option maxRecDepth 100000 in
theorem xML_p5_26 : xm_mq (16, 47, 0, 303, 2, 0) := ⟨_, xc_303, rfl, xg_of (i := 793) rfl rfl, xg_of (i := 794) rfl rfl⟩
set_option maxRecDepth 100000 in
theorem xML_p5_27 : xm_mq (16, 54, 0, 322, 3, 0) := ⟨_, xc_322, rfl, xg_of (i := 1425) rfl rfl, xg_of (i := 1426) rfl rfl⟩
set_option maxRecDepth 100000 in
theorem xML_p5_28 : xm_mq (16, 106, 0, 296, 5, 0) := ⟨_, xc_296, rfl, xg_of (i := 1374) rfl rfl, xg_of (i := 1364) rfl rfl⟩
set_option maxRecDepth 100000 in
theorem xML_p5_29 : xm_mq (16, 177, 0, 304, 3, 0) := ⟨_, xc_304, rfl, xg_of (i := 768) rfl rfl, xg_of (i := 769) rfl rfl⟩
set_option maxRecDepth 100000 in
theorem xML_p5_30 : xm_mq (16, 180, 0, 302, 3, 0) := ⟨_, xc_302, rfl, xg_of (i := 796) rfl rfl, xg_of (i := 775) rfl rfl⟩
set_option maxRecDepth 100000 in
theorem xML_p5_31 : xm_mq (16, 212, 9, 102, 0, 0) := ⟨xg_of (i := 1373) rfl rfl, xg_of (i := 516) rfl rfl, xg_of (i := 515) rfl rfl, xg_of (i := 25) rfl rfl, Or.inr (Or.inr rfl)⟩
set_option maxRecDepth 100000 in
theorem xML_p5_32 : xm_mq (16, 335, 1, 279, 0, 12) := ⟨_, _, xc_279, rfl, rfl, by decide, xg_of (i := 662) rfl rfl, xg_of (i := 663) rfl rfl, xg_of (i := 664) rfl rfl⟩
set_option maxRecDepth 100000 in
theorem xML_p5_33 : xm_mq (16, 489, 2, 278, 2, 12) := ⟨_, xc_278, rfl, rfl, rfl, xg_of (i := 1408) rfl rfl, xg_of (i := 1409) rfl rfl⟩
set_option maxRecDepth 100000 in
theorem xML_p5_34 : xm_mq (16, 492, 1, 280, 0, 12) := ⟨_, _, xc_280, rfl, rfl, by decide, xg_of (i := 671) rfl rfl, xg_of (i := 672) rfl rfl, xg_of (i := 673) rfl rfl⟩
set_option maxRecDepth 100000 in
theorem xML_p5_35 : xm_mq (16, 495, 0, 293, 2, 0) := ⟨_, xc_293, rfl, xg_of (i := 675) rfl rfl, xg_of (i := 676) rfl rfl⟩
set_option maxRecDepth 100000 in
theorem xML_p5_36 : xm_mq (16, 498, 0, 312, 2, 0) := ⟨_, xc_312, rfl, xg_of (i := 686) rfl rfl, xg_of (i := 687) rfl rfl⟩
set_option maxRecDepth 100000 in
theorem xML_p5_37 : xm_mq (16, 552, 6, 262, 0, 13) := ⟨_, _, _, xc_262, rfl, rfl, by decide, xg_of (i := 1411) rfl rfl, xg_of (i := 1413) rfl rfl, xg_of (i := 1414) rfl rfl, xg_of (i := 1412) rfl rfl, rfl, rfl⟩
set_option maxRecDepth 100000 in
theorem xML_p5_38 : xm_mq (16, 1047, 6, 263, 0, 13) := ⟨_, _, _, xc_263, rfl, rfl, by decide, xg_of (i := 1424) rfl rfl, xg_of (i := 1334) rfl rfl, xg_of (i := 1335) rfl rfl, xg_of (i := 1333) rfl rfl, rfl, rfl⟩
set_option maxRecDepth 100000 in
theorem xML_p5_39 : xm_mq (16, 1051, 0, 305, 3, 0) := ⟨_, xc_305, rfl, xg_of (i := 1442) rfl rfl, xg_of (i := 1443) rfl rfl⟩
def xML_5 : List (Nat × Nat × Nat × Nat × Nat × Nat) := [(12, 3, 8, 0, 0, 0), (12, 26, 0, 297, 1, 0), (12, 32, 1, 274, 0, 12), (12, 40, 1, 279, 0, 12), (12, 83, 6, 263, 0, 13), (12, 108, 0, 320, 2, 0), (12, 114, 0, 324, 3, 0), (12, 125, 0, 296, 5, 0), (12, 133, 0, 295, 3, 0), (12, 137, 0, 308, 3, 0), (12, 138, 0, 271, 2, 0), (12, 144, 0, 281, 2, 0), (12, 148, 0, 300, 2, 0), (12, 191, 0, 294, 1, 0), (12, 197, 0, 309, 3, 0), (12, 226, 0, 311, 6, 0), (12, 245, 0, 268, 1, 0), (12, 248, 0, 267, 3, 0), (12, 251, 0, 310, 4, 0), (12, 399, 1, 276, 3, 12), (13, 12, 2, 284, 0, 13), (13, 15, 1, 285, 1, 13), (13, 19, 1, 287, 1, 13), (13, 22, 1, 288, 0, 13), (16, 1, 8, 0, 0, 0), (16, 27, 2, 277, 4, 12), (16, 47, 0, 303, 2, 0), (16, 54, 0, 322, 3, 0), (16, 106, 0, 296, 5, 0), (16, 177, 0, 304, 3, 0), (16, 180, 0, 302, 3, 0), (16, 212, 9, 102, 0, 0), (16, 335, 1, 279, 0, 12), (16, 489, 2, 278, 2, 12), (16, 492, 1, 280, 0, 12), (16, 495, 0, 293, 2, 0), (16, 498, 0, 312, 2, 0), (16, 552, 6, 262, 0, 13), (16, 1047, 6, 263, 0, 13), (16, 1051, 0, 305, 3, 0)]
theorem xML_ok5 : ∀ q ∈ xML_5, xm_mq q := List.forall_mem_cons.mpr ⟨xML_p5_0, List.forall_mem_cons.mpr ⟨xML_p5_1, List.forall_mem_cons.mpr ⟨xML_p5_2, List.forall_mem_cons.mpr ⟨xML_p5_3, List.forall_mem_cons.mpr ⟨xML_p5_4, List.forall_mem_cons.mpr ⟨xML_p5_5, List.forall_mem_cons.mpr ⟨xML_p5_6, List.forall_mem_cons.mpr ⟨xML_p5_7, List.forall_mem_cons.mpr ⟨xML_p5_8, List.forall_mem_cons.mpr ⟨xML_p5_9, List.forall_mem_cons.mpr ⟨xML_p5_10, List.forall_mem_cons.mpr ⟨xML_p5_11, List.forall_mem_cons.mpr ⟨xML_p5_12, List.forall_mem_cons.mpr ⟨xML_p5_13, List.forall_mem_cons.mpr ⟨xML_p5_14, List.forall_mem_cons.mpr ⟨xML_p5_15, List.forall_mem_cons.mpr ⟨xML_p5_16, List.forall_mem_cons.mpr ⟨xML_p5_17, List.forall_mem_cons.mpr ⟨xML_p5_18, List.forall_mem_cons.mpr ⟨xML_p5_19, List.forall_mem_cons.mpr ⟨xML_p5_20, List.forall_mem_cons.mpr ⟨xML_p5_21, List.forall_mem_cons.mpr ⟨xML_p5_22, List.forall_mem_cons.mpr ⟨xML_p5_23, List.forall_mem_cons.mpr ⟨xML_p5_24, List.forall_mem_cons.mpr ⟨xML_p5_25, List.forall_mem_cons.mpr ⟨xML_p5_26, List.forall_mem_cons.mpr ⟨xML_p5_27, List.forall_mem_cons.mpr ⟨xML_p5_28, List.forall_mem_cons.mpr ⟨xML_p5_29, List.forall_mem_cons.mpr ⟨xML_p5_30, List.forall_mem_cons.mpr ⟨xML_p5_31, List.forall_mem_cons.mpr ⟨xML_p5_32, List.forall_mem_cons.mpr ⟨xML_p5_33, List.forall_mem_cons.mpr ⟨xML_p5_34, List.forall_mem_cons.mpr ⟨xML_p5_35, List.forall_mem_cons.mpr ⟨xML_p5_36, List.forall_mem_cons.mpr ⟨xML_p5_37, List.forall_mem_cons.mpr ⟨xML_p5_38, List.forall_mem_cons.mpr ⟨xML_p5_39, fun _ h => absurd h List.not_mem_nil⟩⟩⟩⟩⟩⟩⟩⟩⟩⟩⟩⟩⟩⟩⟩⟩⟩⟩⟩⟩⟩⟩⟩⟩⟩⟩⟩⟩⟩⟩⟩⟩⟩⟩⟩⟩⟩⟩⟩⟩
set_option maxRecDepth 100000 in
theorem xML_p6_0 : xm_mq (16, 1059, 0, 326, 3, 0) := ⟨_, xc_326, rfl, xg_of (i := 683) rfl rfl, xg_of (i := 684) rfl rfl⟩
set_option maxRecDepth 100000 in
theorem xML_p6_1 : xm_mq (16, 1062, 0, 327, 4, 0) := ⟨_, xc_327, rfl, xg_of (i := 1346) rfl rfl, xg_of (i := 1347) rfl rfl⟩
set_option maxRecDepth 100000 in
theorem xML_p6_2 : xm_mq (16, 1065, 0, 328, 4, 0) := ⟨_, xc_328, rfl, xg_of (i := 790) rfl rfl, xg_of (i := 791) rfl rfl⟩
set_option maxRecDepth 100000 in
theorem xML_p6_3 : xm_mq (17, 1, 2, 251, 1, 13) := ⟨_, xc_251, rfl, rfl, rfl, xg_of (i := 424) rfl rfl, xg_of (i := 425) rfl rfl⟩
set_option maxRecDepth 100000 in
theorem xML_p6_4 : xm_mq (17, 29, 7, 258, 1, 13) := ⟨_, _, xc_258, rfl, rfl, by decide, by decide, xg_of (i := 1296) rfl rfl, xg_of (i := 2140) rfl rfl, xg_of (i := 450) rfl rfl, xg_of (i := 1297) rfl rfl⟩
set_option maxRecDepth 100000 in
theorem xML_p6_5 : xm_mq (17, 50, 7, 260, 1, 13) := ⟨_, _, xc_260, rfl, rfl, by decide, by decide, xg_of (i := 1498) rfl rfl, xg_of (i := 2148) rfl rfl, xg_of (i := 450) rfl rfl, xg_of (i := 1499) rfl rfl⟩
set_option maxRecDepth 100000 in
theorem xML_p6_6 : xm_mq (17, 53, 7, 261, 1, 13) := ⟨_, _, xc_261, rfl, rfl, by decide, by decide, xg_of (i := 1379) rfl rfl, xg_of (i := 2147) rfl rfl, xg_of (i := 450) rfl rfl, xg_of (i := 1380) rfl rfl⟩
set_option maxRecDepth 100000 in
theorem xML_p6_7 : xm_mq (17, 137, 2, 273, 1, 12) := ⟨_, xc_273, rfl, rfl, rfl, xg_of (i := 1405) rfl rfl, xg_of (i := 1406) rfl rfl⟩
set_option maxRecDepth 100000 in
theorem xML_p6_8 : xm_mq (17, 329, 7, 257, 1, 13) := ⟨_, _, xc_257, rfl, rfl, by decide, by decide, xg_of (i := 1531) rfl rfl, xg_of (i := 2150) rfl rfl, xg_of (i := 450) rfl rfl, xg_of (i := 1532) rfl rfl⟩
set_option maxRecDepth 100000 in
theorem xML_p6_9 : xm_mq (17, 333, 7, 256, 1, 13) := ⟨_, _, xc_256, rfl, rfl, by decide, by decide, xg_of (i := 1281) rfl rfl, xg_of (i := 2139) rfl rfl, xg_of (i := 450) rfl rfl, xg_of (i := 1282) rfl rfl⟩
set_option maxRecDepth 100000 in
theorem xML_p6_10 : xm_mq (17, 343, 7, 252, 0, 13) := ⟨_, _, xc_252, rfl, rfl, by decide, by decide, xg_of (i := 1422) rfl rfl, xg_of (i := 1418) rfl rfl, xg_of (i := 450) rfl rfl, xg_of (i := 1417) rfl rfl⟩
set_option maxRecDepth 100000 in
theorem xML_p6_11 : xm_mq (18, 12, 2, 284, 0, 13) := ⟨_, xc_284, rfl, rfl, rfl, xg_of (i := 1290) rfl rfl, xg_of (i := 422) rfl rfl⟩
set_option maxRecDepth 100000 in
theorem xML_p6_12 : xm_mq (18, 15, 1, 285, 1, 13) := ⟨_, _, xc_285, rfl, rfl, by decide, xg_of (i := 1292) rfl rfl, xg_of (i := 1293) rfl rfl, xg_of (i := 1294) rfl rfl⟩
set_option maxRecDepth 100000 in
theorem xML_p6_13 : xm_mq (18, 19, 1, 287, 1, 13) := ⟨_, _, xc_287, rfl, rfl, by decide, xg_of (i := 1375) rfl rfl, xg_of (i := 1376) rfl rfl, xg_of (i := 1377) rfl rfl⟩
set_option maxRecDepth 100000 in
theorem xML_p6_14 : xm_mq (18, 22, 1, 288, 0, 13) := ⟨_, _, xc_288, rfl, rfl, by decide, xg_of (i := 1400) rfl rfl, xg_of (i := 1401) rfl rfl, xg_of (i := 1402) rfl rfl⟩
set_option maxRecDepth 100000 in
theorem xML_p6_15 : xm_mq (19, 9, 0, 281, 2, 0) := ⟨_, xc_281, rfl, xg_of (i := 678) rfl rfl, xg_of (i := 679) rfl rfl⟩
set_option maxRecDepth 100000 in
theorem xML_p6_16 : xm_mq (19, 236, 0, 319, 4, 0) := ⟨_, xc_319, rfl, xg_of (i := 1457) rfl rfl, xg_of (i := 1458) rfl rfl⟩
set_option maxRecDepth 100000 in
theorem xML_p6_17 : xm_mq (19, 240, 0, 313, 5, 0) := ⟨_, xc_313, rfl, xg_of (i := 1366) rfl rfl, xg_of (i := 1367) rfl rfl⟩
set_option maxRecDepth 100000 in
theorem xML_p6_18 : xm_mq (20, 11, 0, 298, 1, 0) := ⟨_, xc_298, rfl, xg_of (i := 433) rfl rfl, xg_of (i := 434) rfl rfl⟩
set_option maxRecDepth 100000 in
theorem xML_p6_19 : xm_mq (20, 48, 0, 301, 1, 0) := ⟨_, xc_301, rfl, xg_of (i := 692) rfl rfl, xg_of (i := 693) rfl rfl⟩
set_option maxRecDepth 100000 in
theorem xML_p6_20 : xm_mq (20, 67, 0, 315, 2, 0) := ⟨_, xc_315, rfl, xg_of (i := 689) rfl rfl, xg_of (i := 690) rfl rfl⟩
set_option maxRecDepth 100000 in
theorem xML_p6_21 : xm_mq (20, 71, 0, 300, 2, 0) := ⟨_, xc_300, rfl, xg_of (i := 696) rfl rfl, xg_of (i := 697) rfl rfl⟩
set_option maxRecDepth 100000 in
theorem xML_p6_22 : xm_mq (20, 96, 0, 316, 3, 0) := ⟨_, xc_316, rfl, xg_of (i := 1340) rfl rfl, xg_of (i := 1341) rfl rfl⟩
set_option maxRecDepth 100000 in
theorem xML_p6_23 : xm_mq (20, 107, 0, 297, 1, 0) := ⟨_, xc_297, rfl, xg_of (i := 777) rfl rfl, xg_of (i := 431) rfl rfl⟩
set_option maxRecDepth 100000 in
theorem xML_p6_24 : xm_mq (20, 111, 0, 299, 3, 0) := ⟨_, xc_299, rfl, xg_of (i := 778) rfl rfl, xg_of (i := 779) rfl rfl⟩
set_option maxRecDepth 100000 in
theorem xML_p6_25 : xm_mq (20, 115, 0, 306, 5, 0) := ⟨_, xc_306, rfl, xg_of (i := 771) rfl rfl, xg_of (i := 772) rfl rfl⟩
set_option maxRecDepth 100000 in
theorem xML_p6_26 : xm_mq (20, 119, 0, 302, 3, 0) := ⟨_, xc_302, rfl, xg_of (i := 774) rfl rfl, xg_of (i := 775) rfl rfl⟩
set_option maxRecDepth 100000 in
theorem xML_p6_27 : xm_mq (20, 123, 0, 307, 5, 0) := ⟨_, xc_307, rfl, xg_of (i := 781) rfl rfl, xg_of (i := 782) rfl rfl⟩
set_option maxRecDepth 100000 in
theorem xML_p6_28 : xm_mq (20, 126, 0, 322, 3, 0) := ⟨_, xc_322, rfl, xg_of (i := 1445) rfl rfl, xg_of (i := 1426) rfl rfl⟩
set_option maxRecDepth 100000 in
theorem xML_p6_29 : xm_mq (20, 173, 0, 317, 3, 0) := ⟨_, xc_317, rfl, xg_of (i := 784) rfl rfl, xg_of (i := 785) rfl rfl⟩
set_option maxRecDepth 100000 in
theorem xML_p6_30 : xm_mq (20, 241, 0, 283, 3, 0) := ⟨_, xc_283, rfl, xg_of (i := 1343) rfl rfl, xg_of (i := 1344) rfl rfl⟩
set_option maxRecDepth 100000 in
theorem xML_p6_31 : xm_mq (20, 380, 0, 319, 4, 0) := ⟨_, xc_319, rfl, xg_of (i := 1492) rfl rfl, xg_of (i := 1458) rfl rfl⟩
set_option maxRecDepth 100000 in
theorem xML_p6_32 : xm_mq (20, 393, 0, 314, 3, 0) := ⟨_, xc_314, rfl, xg_of (i := 1395) rfl rfl, xg_of (i := 1396) rfl rfl⟩
set_option maxRecDepth 100000 in
theorem xML_p6_33 : xm_mq (20, 414, 0, 281, 2, 0) := ⟨_, xc_281, rfl, xg_of (i := 695) rfl rfl, xg_of (i := 679) rfl rfl⟩
set_option maxRecDepth 100000 in
theorem xML_p6_34 : xm_mq (20, 419, 0, 282, 3, 0) := ⟨_, xc_282, rfl, xg_of (i := 787) rfl rfl, xg_of (i := 788) rfl rfl⟩
set_option maxRecDepth 100000 in
theorem xML_p6_35 : xm_mq (21, 13, 0, 318, 3, 0) := ⟨_, xc_318, rfl, xg_of (i := 1460) rfl rfl, xg_of (i := 1461) rfl rfl⟩
set_option maxRecDepth 100000 in
theorem xML_p6_36 : xm_mq (21, 47, 2, 284, 0, 13) := ⟨_, xc_284, rfl, rfl, rfl, xg_of (i := 1436) rfl rfl, xg_of (i := 422) rfl rfl⟩
set_option maxRecDepth 100000 in
theorem xML_p6_37 : xm_mq (21, 50, 1, 285, 1, 13) := ⟨_, _, xc_285, rfl, rfl, by decide, xg_of (i := 1439) rfl rfl, xg_of (i := 1293) rfl rfl, xg_of (i := 1294) rfl rfl⟩
set_option maxRecDepth 100000 in
theorem xML_p6_38 : xm_mq (21, 54, 1, 287, 1, 13) := ⟨_, _, xc_287, rfl, rfl, by decide, xg_of (i := 1437) rfl rfl, xg_of (i := 1376) rfl rfl, xg_of (i := 1377) rfl rfl⟩
set_option maxRecDepth 100000 in
theorem xML_p6_39 : xm_mq (21, 61, 1, 288, 0, 13) := ⟨_, _, xc_288, rfl, rfl, by decide, xg_of (i := 1440) rfl rfl, xg_of (i := 1401) rfl rfl, xg_of (i := 1402) rfl rfl⟩
def xML_6 : List (Nat × Nat × Nat × Nat × Nat × Nat) := [(16, 1059, 0, 326, 3, 0), (16, 1062, 0, 327, 4, 0), (16, 1065, 0, 328, 4, 0), (17, 1, 2, 251, 1, 13), (17, 29, 7, 258, 1, 13), (17, 50, 7, 260, 1, 13), (17, 53, 7, 261, 1, 13), (17, 137, 2, 273, 1, 12), (17, 329, 7, 257, 1, 13), (17, 333, 7, 256, 1, 13), (17, 343, 7, 252, 0, 13), (18, 12, 2, 284, 0, 13), (18, 15, 1, 285, 1, 13), (18, 19, 1, 287, 1, 13), (18, 22, 1, 288, 0, 13), (19, 9, 0, 281, 2, 0), (19, 236, 0, 319, 4, 0), (19, 240, 0, 313, 5, 0), (20, 11, 0, 298, 1, 0), (20, 48, 0, 301, 1, 0), (20, 67, 0, 315, 2, 0), (20, 71, 0, 300, 2, 0), (20, 96, 0, 316, 3, 0), (20, 107, 0, 297, 1, 0), (20, 111, 0, 299, 3, 0), (20, 115, 0, 306, 5, 0), (20, 119, 0, 302, 3, 0), (20, 123, 0, 307, 5, 0), (20, 126, 0, 322, 3, 0), (20, 173, 0, 317, 3, 0), (20, 241, 0, 283, 3, 0), (20, 380, 0, 319, 4, 0), (20, 393, 0, 314, 3, 0), (20, 414, 0, 281, 2, 0), (20, 419, 0, 282, 3, 0), (21, 13, 0, 318, 3, 0), (21, 47, 2, 284, 0, 13), (21, 50, 1, 285, 1, 13), (21, 54, 1, 287, 1, 13), (21, 61, 1, 288, 0, 13)]
theorem xML_ok6 : ∀ q ∈ xML_6, xm_mq q := List.forall_mem_cons.mpr ⟨xML_p6_0, List.forall_mem_cons.mpr ⟨xML_p6_1, List.forall_mem_cons.mpr ⟨xML_p6_2, List.forall_mem_cons.mpr ⟨xML_p6_3, List.forall_mem_cons.mpr ⟨xML_p6_4, List.forall_mem_cons.mpr ⟨xML_p6_5, List.forall_mem_cons.mpr ⟨xML_p6_6, List.forall_mem_cons.mpr ⟨xML_p6_7, List.forall_mem_cons.mpr ⟨xML_p6_8, List.forall_mem_cons.mpr ⟨xML_p6_9, List.forall_mem_cons.mpr ⟨xML_p6_10, List.forall_mem_cons.mpr ⟨xML_p6_11, List.forall_mem_cons.mpr ⟨xML_p6_12, List.forall_mem_cons.mpr ⟨xML_p6_13, List.forall_mem_cons.mpr ⟨xML_p6_14, List.forall_mem_cons.mpr ⟨xML_p6_15, List.forall_mem_cons.mpr ⟨xML_p6_16, List.forall_mem_cons.mpr ⟨xML_p6_17, List.forall_mem_cons.mpr ⟨xML_p6_18, List.forall_mem_cons.mpr ⟨xML_p6_19, List.forall_mem_cons.mpr ⟨xML_p6_20, List.forall_mem_cons.mpr ⟨xML_p6_21, List.forall_mem_cons.mpr ⟨xML_p6_22, List.forall_mem_cons.mpr ⟨xML_p6_23, List.forall_mem_cons.mpr ⟨xML_p6_24, List.forall_mem_cons.mpr ⟨xML_p6_25, List.forall_mem_cons.mpr ⟨xML_p6_26, List.forall_mem_cons.mpr ⟨xML_p6_27, List.forall_mem_cons.mpr ⟨xML_p6_28, List.forall_mem_cons.mpr ⟨xML_p6_29, List.forall_mem_cons.mpr ⟨xML_p6_30, List.forall_mem_cons.mpr ⟨xML_p6_31, List.forall_mem_cons.mpr ⟨xML_p6_32, List.forall_mem_cons.mpr ⟨xML_p6_33, List.forall_mem_cons.mpr ⟨xML_p6_34, List.forall_mem_cons.mpr ⟨xML_p6_35, List.forall_mem_cons.mpr ⟨xML_p6_36, List.forall_mem_cons.mpr ⟨xML_p6_37, List.forall_mem_cons.mpr ⟨xML_p6_38, List.forall_mem_cons.mpr ⟨xML_p6_39, fun _ h => absurd h List.not_mem_nil⟩⟩⟩⟩⟩⟩⟩⟩⟩⟩⟩⟩⟩⟩⟩⟩⟩⟩⟩⟩⟩⟩⟩⟩⟩⟩⟩⟩⟩⟩⟩⟩⟩⟩⟩⟩⟩⟩⟩⟩
set_option maxRecDepth 100000 in
theorem xML_p7_0 : xm_mq (21, 150, 9, 102, 0, 0) := ⟨xg_of (i := 1331) rfl rfl, xg_of (i := 516) rfl rfl, xg_of (i := 515) rfl rfl, xg_of (i := 25) rfl rfl, Or.inr (Or.inr rfl)⟩
set_option maxRecDepth 100000 in
theorem xML_p7_1 : xm_mq (21, 304, 0, 271, 2, 0) := ⟨_, xc_271, rfl, xg_of (i := 1330) rfl rfl, xg_of (i := 635) rfl rfl⟩
set_option maxRecDepth 100000 in
theorem xML_p7_2 : xm_mq (21, 339, 0, 323, 3, 0) := ⟨_, xc_323, rfl, xg_of (i := 1428) rfl rfl, xg_of (i := 1429) rfl rfl⟩
set_option maxRecDepth 100000 in
theorem xML_p7_3 : xm_mq (21, 343, 0, 321, 2, 0) := ⟨_, xc_321, rfl, xg_of (i := 1431) rfl rfl, xg_of (i := 1432) rfl rfl⟩
set_option maxRecDepth 100000 in
theorem xML_p7_4 : xm_mq (22, 194, 0, 270, 2, 0) := ⟨_, xc_270, rfl, xg_of (i := 1314) rfl rfl, xg_of (i := 1001) rfl rfl⟩
set_option maxRecDepth 100000 in
theorem xML_p7_5 : xm_mq (22, 201, 0, 325, 2, 0) := ⟨_, xc_325, rfl, xg_of (i := 1316) rfl rfl, xg_of (i := 1317) rfl rfl⟩
set_option maxRecDepth 100000 in
theorem xML_p7_6 : xm_mq (24, 7, 1, 74, 1, 0) := ⟨_, _, xc_74, rfl, rfl, by decide, xg_of (i := 549) rfl rfl, xg_of (i := 550) rfl rfl, xg_of (i := 551) rfl rfl⟩
set_option maxRecDepth 100000 in
theorem xML_p7_7 : xm_mq (24, 15, 1, 80, 1, 0) := ⟨_, _, xc_80, rfl, rfl, by decide, xg_of (i := 850) rfl rfl, xg_of (i := 851) rfl rfl, xg_of (i := 852) rfl rfl⟩
set_option maxRecDepth 100000 in
theorem xML_p7_8 : xm_mq (24, 20, 1, 81, 1, 0) := ⟨_, _, xc_81, rfl, rfl, by decide, xg_of (i := 877) rfl rfl, xg_of (i := 878) rfl rfl, xg_of (i := 879) rfl rfl⟩
set_option maxRecDepth 100000 in
theorem xML_p7_9 : xm_mq (24, 23, 1, 82, 1, 0) := ⟨_, _, xc_82, rfl, rfl, by decide, xg_of (i := 889) rfl rfl, xg_of (i := 890) rfl rfl, xg_of (i := 891) rfl rfl⟩
set_option maxRecDepth 100000 in
theorem xML_p7_10 : xm_mq (24, 26, 1, 83, 1, 0) := ⟨_, _, xc_83, rfl, rfl, by decide, xg_of (i := 903) rfl rfl, xg_of (i := 904) rfl rfl, xg_of (i := 905) rfl rfl⟩
set_option maxRecDepth 100000 in
theorem xML_p7_11 : xm_mq (24, 29, 1, 84, 1, 0) := ⟨_, _, xc_84, rfl, rfl, by decide, xg_of (i := 910) rfl rfl, xg_of (i := 911) rfl rfl, xg_of (i := 912) rfl rfl⟩
set_option maxRecDepth 100000 in
theorem xML_p7_12 : xm_mq (24, 32, 1, 85, 1, 0) := ⟨_, _, xc_85, rfl, rfl, by decide, xg_of (i := 917) rfl rfl, xg_of (i := 918) rfl rfl, xg_of (i := 919) rfl rfl⟩
set_option maxRecDepth 100000 in
theorem xML_p7_13 : xm_mq (24, 35, 1, 86, 1, 0) := ⟨_, _, xc_86, rfl, rfl, by decide, xg_of (i := 924) rfl rfl, xg_of (i := 925) rfl rfl, xg_of (i := 926) rfl rfl⟩
set_option maxRecDepth 100000 in
theorem xML_p7_14 : xm_mq (24, 38, 1, 87, 1, 0) := ⟨_, _, xc_87, rfl, rfl, by decide, xg_of (i := 935) rfl rfl, xg_of (i := 936) rfl rfl, xg_of (i := 937) rfl rfl⟩
set_option maxRecDepth 100000 in
theorem xML_p7_15 : xm_mq (24, 41, 1, 89, 3, 0) := ⟨_, _, xc_89, rfl, rfl, by decide, xg_of (i := 942) rfl rfl, xg_of (i := 943) rfl rfl, xg_of (i := 944) rfl rfl⟩
set_option maxRecDepth 100000 in
theorem xML_p7_16 : xm_mq (24, 45, 1, 90, 3, 0) := ⟨_, _, xc_90, rfl, rfl, by decide, xg_of (i := 965) rfl rfl, xg_of (i := 966) rfl rfl, xg_of (i := 967) rfl rfl⟩
set_option maxRecDepth 100000 in
theorem xML_p7_17 : xm_mq (24, 48, 1, 91, 3, 0) := ⟨_, _, xc_91, rfl, rfl, by decide, xg_of (i := 984) rfl rfl, xg_of (i := 985) rfl rfl, xg_of (i := 986) rfl rfl⟩
set_option maxRecDepth 100000 in
theorem xML_p7_18 : xm_mq (24, 51, 1, 92, 3, 0) := ⟨_, _, xc_92, rfl, rfl, by decide, xg_of (i := 1006) rfl rfl, xg_of (i := 1007) rfl rfl, xg_of (i := 1008) rfl rfl⟩
set_option maxRecDepth 100000 in
theorem xML_p7_19 : xm_mq (24, 54, 1, 93, 4, 0) := ⟨_, _, xc_93, rfl, rfl, by decide, xg_of (i := 1013) rfl rfl, xg_of (i := 1014) rfl rfl, xg_of (i := 1015) rfl rfl⟩
set_option maxRecDepth 100000 in
theorem xML_p7_20 : xm_mq (24, 58, 1, 94, 3, 0) := ⟨_, _, xc_94, rfl, rfl, by decide, xg_of (i := 1033) rfl rfl, xg_of (i := 1034) rfl rfl, xg_of (i := 1035) rfl rfl⟩
set_option maxRecDepth 100000 in
theorem xML_p7_21 : xm_mq (24, 61, 1, 95, 3, 0) := ⟨_, _, xc_95, rfl, rfl, by decide, xg_of (i := 1053) rfl rfl, xg_of (i := 1054) rfl rfl, xg_of (i := 1055) rfl rfl⟩
set_option maxRecDepth 100000 in
theorem xML_p7_22 : xm_mq (24, 64, 1, 96, 4, 0) := ⟨_, _, xc_96, rfl, rfl, by decide, xg_of (i := 1083) rfl rfl, xg_of (i := 1084) rfl rfl, xg_of (i := 1085) rfl rfl⟩
set_option maxRecDepth 100000 in
theorem xML_p7_23 : xm_mq (24, 67, 1, 97, 4, 0) := ⟨_, _, xc_97, rfl, rfl, by decide, xg_of (i := 1090) rfl rfl, xg_of (i := 1091) rfl rfl, xg_of (i := 1092) rfl rfl⟩
set_option maxRecDepth 100000 in
theorem xML_p7_24 : xm_mq (24, 70, 1, 99, 3, 0) := ⟨_, _, xc_99, rfl, rfl, by decide, xg_of (i := 1106) rfl rfl, xg_of (i := 1107) rfl rfl, xg_of (i := 1108) rfl rfl⟩
set_option maxRecDepth 100000 in
theorem xML_p7_25 : xm_mq (24, 75, 1, 100, 1, 0) := ⟨_, _, xc_100, rfl, rfl, by decide, xg_of (i := 1134) rfl rfl, xg_of (i := 1135) rfl rfl, xg_of (i := 1136) rfl rfl⟩
set_option maxRecDepth 100000 in
theorem xML_p7_26 : xm_mq (24, 78, 1, 101, 2, 0) := ⟨_, _, xc_101, rfl, rfl, by decide, xg_of (i := 1142) rfl rfl, xg_of (i := 1143) rfl rfl, xg_of (i := 1144) rfl rfl⟩
set_option maxRecDepth 100000 in
theorem xML_p7_27 : xm_mq (24, 82, 1, 103, 1, 0) := ⟨_, _, xc_103, rfl, rfl, by decide, xg_of (i := 1162) rfl rfl, xg_of (i := 1163) rfl rfl, xg_of (i := 1164) rfl rfl⟩
set_option maxRecDepth 100000 in
theorem xML_p7_28 : xm_mq (24, 85, 1, 104, 1, 0) := ⟨_, _, xc_104, rfl, rfl, by decide, xg_of (i := 1171) rfl rfl, xg_of (i := 1172) rfl rfl, xg_of (i := 1173) rfl rfl⟩
set_option maxRecDepth 100000 in
theorem xML_p7_29 : xm_mq (24, 88, 1, 105, 2, 0) := ⟨_, _, xc_105, rfl, rfl, by decide, xg_of (i := 1179) rfl rfl, xg_of (i := 1180) rfl rfl, xg_of (i := 1181) rfl rfl⟩
set_option maxRecDepth 100000 in
theorem xML_p7_30 : xm_mq (24, 91, 1, 106, 2, 0) := ⟨_, _, xc_106, rfl, rfl, by decide, xg_of (i := 1186) rfl rfl, xg_of (i := 1187) rfl rfl, xg_of (i := 1188) rfl rfl⟩
set_option maxRecDepth 100000 in
theorem xML_p7_31 : xm_mq (24, 94, 1, 107, 2, 0) := ⟨_, _, xc_107, rfl, rfl, by decide, xg_of (i := 1194) rfl rfl, xg_of (i := 1195) rfl rfl, xg_of (i := 1196) rfl rfl⟩
set_option maxRecDepth 100000 in
theorem xML_p7_32 : xm_mq (24, 97, 1, 108, 2, 0) := ⟨_, _, xc_108, rfl, rfl, by decide, xg_of (i := 1201) rfl rfl, xg_of (i := 1202) rfl rfl, xg_of (i := 1203) rfl rfl⟩
set_option maxRecDepth 100000 in
theorem xML_p7_33 : xm_mq (24, 100, 1, 111, 2, 0) := ⟨_, _, xc_111, rfl, rfl, by decide, xg_of (i := 1208) rfl rfl, xg_of (i := 1209) rfl rfl, xg_of (i := 1210) rfl rfl⟩
set_option maxRecDepth 100000 in
theorem xML_p7_34 : xm_mq (24, 103, 1, 113, 1, 0) := ⟨_, _, xc_113, rfl, rfl, by decide, xg_of (i := 1220) rfl rfl, xg_of (i := 1221) rfl rfl, xg_of (i := 1222) rfl rfl⟩
set_option maxRecDepth 100000 in
theorem xML_p7_35 : xm_mq (24, 106, 1, 114, 1, 0) := ⟨_, _, xc_114, rfl, rfl, by decide, xg_of (i := 1237) rfl rfl, xg_of (i := 1238) rfl rfl, xg_of (i := 1239) rfl rfl⟩
set_option maxRecDepth 100000 in
theorem xML_p7_36 : xm_mq (24, 110, 1, 115, 2, 0) := ⟨_, _, xc_115, rfl, rfl, by decide, xg_of (i := 1247) rfl rfl, xg_of (i := 1248) rfl rfl, xg_of (i := 1249) rfl rfl⟩
set_option maxRecDepth 100000 in
theorem xML_p7_37 : xm_mq (24, 113, 1, 117, 1, 0) := ⟨_, _, xc_117, rfl, rfl, by decide, xg_of (i := 1254) rfl rfl, xg_of (i := 1255) rfl rfl, xg_of (i := 1256) rfl rfl⟩
set_option maxRecDepth 100000 in
theorem xML_p7_38 : xm_mq (24, 116, 1, 119, 2, 0) := ⟨_, _, xc_119, rfl, rfl, by decide, xg_of (i := 1261) rfl rfl, xg_of (i := 1262) rfl rfl, xg_of (i := 1263) rfl rfl⟩
set_option maxRecDepth 100000 in
theorem xML_p7_39 : xm_mq (24, 120, 1, 121, 1, 0) := ⟨_, _, xc_121, rfl, rfl, by decide, xg_of (i := 1273) rfl rfl, xg_of (i := 1274) rfl rfl, xg_of (i := 1275) rfl rfl⟩
def xML_7 : List (Nat × Nat × Nat × Nat × Nat × Nat) := [(21, 150, 9, 102, 0, 0), (21, 304, 0, 271, 2, 0), (21, 339, 0, 323, 3, 0), (21, 343, 0, 321, 2, 0), (22, 194, 0, 270, 2, 0), (22, 201, 0, 325, 2, 0), (24, 7, 1, 74, 1, 0), (24, 15, 1, 80, 1, 0), (24, 20, 1, 81, 1, 0), (24, 23, 1, 82, 1, 0), (24, 26, 1, 83, 1, 0), (24, 29, 1, 84, 1, 0), (24, 32, 1, 85, 1, 0), (24, 35, 1, 86, 1, 0), (24, 38, 1, 87, 1, 0), (24, 41, 1, 89, 3, 0), (24, 45, 1, 90, 3, 0), (24, 48, 1, 91, 3, 0), (24, 51, 1, 92, 3, 0), (24, 54, 1, 93, 4, 0), (24, 58, 1, 94, 3, 0), (24, 61, 1, 95, 3, 0), (24, 64, 1, 96, 4, 0), (24, 67, 1, 97, 4, 0), (24, 70, 1, 99, 3, 0), (24, 75, 1, 100, 1, 0), (24, 78, 1, 101, 2, 0), (24, 82, 1, 103, 1, 0), (24, 85, 1, 104, 1, 0), (24, 88, 1, 105, 2, 0), (24, 91, 1, 106, 2, 0), (24, 94, 1, 107, 2, 0), (24, 97, 1, 108, 2, 0), (24, 100, 1, 111, 2, 0), (24, 103, 1, 113, 1, 0), (24, 106, 1, 114, 1, 0), (24, 110, 1, 115, 2, 0), (24, 113, 1, 117, 1, 0), (24, 116, 1, 119, 2, 0), (24, 120, 1, 121, 1, 0)]
theorem xML_ok7 : ∀ q ∈ xML_7, xm_mq q := List.forall_mem_cons.mpr ⟨xML_p7_0, List.forall_mem_cons.mpr ⟨xML_p7_1, List.forall_mem_cons.mpr ⟨xML_p7_2, List.forall_mem_cons.mpr ⟨xML_p7_3, List.forall_mem_cons.mpr ⟨xML_p7_4, List.forall_mem_cons.mpr ⟨xML_p7_5, List.forall_mem_cons.mpr ⟨xML_p7_6, List.forall_mem_cons.mpr ⟨xML_p7_7, List.forall_mem_cons.mpr ⟨xML_p7_8, List.forall_mem_cons.mpr ⟨xML_p7_9, List.forall_mem_cons.mpr ⟨xML_p7_10, List.forall_mem_cons.mpr ⟨xML_p7_11, List.forall_mem_cons.mpr ⟨xML_p7_12, List.forall_mem_cons.mpr ⟨xML_p7_13, List.forall_mem_cons.mpr ⟨xML_p7_14, List.forall_mem_cons.mpr ⟨xML_p7_15, List.forall_mem_cons.mpr ⟨xML_p7_16, List.forall_mem_cons.mpr ⟨xML_p7_17, List.forall_mem_cons.mpr ⟨xML_p7_18, List.forall_mem_cons.mpr ⟨xML_p7_19, List.forall_mem_cons.mpr ⟨xML_p7_20, List.forall_mem_cons.mpr ⟨xML_p7_21, List.forall_mem_cons.mpr ⟨xML_p7_22, List.forall_mem_cons.mpr ⟨xML_p7_23, List.forall_mem_cons.mpr ⟨xML_p7_24, List.forall_mem_cons.mpr ⟨xML_p7_25, List.forall_mem_cons.mpr ⟨xML_p7_26, List.forall_mem_cons.mpr ⟨xML_p7_27, List.forall_mem_cons.mpr ⟨xML_p7_28, List.forall_mem_cons.mpr ⟨xML_p7_29, List.forall_mem_cons.mpr ⟨xML_p7_30, List.forall_mem_cons.mpr ⟨xML_p7_31, List.forall_mem_cons.mpr ⟨xML_p7_32, List.forall_mem_cons.mpr ⟨xML_p7_33, List.forall_mem_cons.mpr ⟨xML_p7_34, List.forall_mem_cons.mpr ⟨xML_p7_35, List.forall_mem_cons.mpr ⟨xML_p7_36, List.forall_mem_cons.mpr ⟨xML_p7_37, List.forall_mem_cons.mpr ⟨xML_p7_38, List.forall_mem_cons.mpr ⟨xML_p7_39, fun _ h => absurd h List.not_mem_nil⟩⟩⟩⟩⟩⟩⟩⟩⟩⟩⟩⟩⟩⟩⟩⟩⟩⟩⟩⟩⟩⟩⟩⟩⟩⟩⟩⟩⟩⟩⟩⟩⟩⟩⟩⟩⟩⟩⟩⟩
set_option maxRecDepth 100000 in
theorem xML_p8_0 : xm_mq (24, 123, 1, 122, 1, 0) := ⟨_, _, xc_122, rfl, rfl, by decide, xg_of (i := 1522) rfl rfl, xg_of (i := 1523) rfl rfl, xg_of (i := 1524) rfl rfl⟩
set_option maxRecDepth 100000 in
theorem xML_p8_1 : xm_mq (24, 127, 2, 72, 0, 0) := ⟨_, xc_72, rfl, rfl, rfl, xg_of (i := 34) rfl rfl, xg_of (i := 35) rfl rfl⟩
set_option maxRecDepth 100000 in
theorem xML_p8_2 : xm_mq (24, 130, 2, 131, 0, 11) := ⟨_, xc_131, rfl, rfl, rfl, xg_of (i := 1539) rfl rfl, xg_of (i := 1540) rfl rfl⟩
set_option maxRecDepth 100000 in
theorem xML_p8_3 : xm_mq (24, 131, 1, 73, 5, 0) := ⟨_, _, xc_73, rfl, rfl, by decide, xg_of (i := 470) rfl rfl, xg_of (i := 471) rfl rfl, xg_of (i := 472) rfl rfl⟩
set_option maxRecDepth 100000 in
theorem xML_p8_4 : xm_mq (24, 135, 1, 141, 5, 11) := ⟨_, _, xc_141, rfl, rfl, by decide, xg_of (i := 1658) rfl rfl, xg_of (i := 1659) rfl rfl, xg_of (i := 1660) rfl rfl⟩
set_option maxRecDepth 100000 in
theorem xML_p8_5 : xm_mq (24, 136, 10, 329, 3, 0) := ⟨_, _, _, xc_329, rfl, xg_of (i := 545) rfl rfl, xg_of (i := 546) rfl rfl⟩
set_option maxRecDepth 100000 in
theorem xML_p8_6 : xm_mq (24, 141, 1, 164, 1, 11) := ⟨_, _, xc_164, rfl, rfl, by decide, xg_of (i := 1666) rfl rfl, xg_of (i := 1667) rfl rfl, xg_of (i := 1668) rfl rfl⟩
set_option maxRecDepth 100000 in
theorem xML_p8_7 : xm_mq (24, 142, 1, 132, 0, 11) := ⟨_, _, xc_132, rfl, rfl, by decide, xg_of (i := 1650) rfl rfl, xg_of (i := 1651) rfl rfl, xg_of (i := 1652) rfl rfl⟩
set_option maxRecDepth 100000 in
theorem xML_p8_8 : xm_mq (24, 146, 1, 75, 0, 0) := ⟨_, _, xc_75, rfl, rfl, by decide, xg_of (i := 478) rfl rfl, xg_of (i := 479) rfl rfl, xg_of (i := 480) rfl rfl⟩
set_option maxRecDepth 100000 in
theorem xML_p8_9 : xm_mq (24, 149, 1, 165, 0, 11) := ⟨_, _, xc_165, rfl, rfl, by decide, xg_of (i := 1765) rfl rfl, xg_of (i := 1766) rfl rfl, xg_of (i := 1767) rfl rfl⟩
set_option maxRecDepth 100000 in
theorem xML_p8_10 : xm_mq (24, 150, 1, 76, 0, 0) := ⟨_, _, xc_76, rfl, rfl, by decide, xg_of (i := 482) rfl rfl, xg_of (i := 483) rfl rfl, xg_of (i := 484) rfl rfl⟩
set_option maxRecDepth 100000 in
theorem xML_p8_11 : xm_mq (24, 153, 1, 166, 0, 11) := ⟨_, _, xc_166, rfl, rfl, by decide, xg_of (i := 1769) rfl rfl, xg_of (i := 1770) rfl rfl, xg_of (i := 1771) rfl rfl⟩
set_option maxRecDepth 100000 in
theorem xML_p8_12 : xm_mq (24, 154, 1, 77, 0, 0) := ⟨_, _, xc_77, rfl, rfl, by decide, xg_of (i := 486) rfl rfl, xg_of (i := 487) rfl rfl, xg_of (i := 488) rfl rfl⟩
set_option maxRecDepth 100000 in
theorem xML_p8_13 : xm_mq (24, 157, 1, 176, 0, 11) := ⟨_, _, xc_176, rfl, rfl, by decide, xg_of (i := 1773) rfl rfl, xg_of (i := 1774) rfl rfl, xg_of (i := 1775) rfl rfl⟩
set_option maxRecDepth 100000 in
theorem xML_p8_14 : xm_mq (24, 158, 1, 78, 0, 0) := ⟨_, _, xc_78, rfl, rfl, by decide, xg_of (i := 490) rfl rfl, xg_of (i := 491) rfl rfl, xg_of (i := 492) rfl rfl⟩
set_option maxRecDepth 100000 in
theorem xML_p8_15 : xm_mq (24, 161, 1, 177, 0, 11) := ⟨_, _, xc_177, rfl, rfl, by decide, xg_of (i := 1777) rfl rfl, xg_of (i := 1778) rfl rfl, xg_of (i := 1779) rfl rfl⟩
set_option maxRecDepth 100000 in
theorem xML_p8_16 : xm_mq (24, 162, 1, 79, 0, 0) := ⟨_, _, xc_79, rfl, rfl, by decide, xg_of (i := 494) rfl rfl, xg_of (i := 495) rfl rfl, xg_of (i := 496) rfl rfl⟩
set_option maxRecDepth 100000 in
theorem xML_p8_17 : xm_mq (24, 165, 1, 178, 0, 11) := ⟨_, _, xc_178, rfl, rfl, by decide, xg_of (i := 1781) rfl rfl, xg_of (i := 1782) rfl rfl, xg_of (i := 1783) rfl rfl⟩
set_option maxRecDepth 100000 in
theorem xML_p8_18 : xm_mq (24, 166, 10, 330, 3, 0) := ⟨_, _, _, xc_330, rfl, xg_of (i := 846) rfl rfl, xg_of (i := 847) rfl rfl⟩
set_option maxRecDepth 100000 in
theorem xML_p8_19 : xm_mq (24, 168, 1, 179, 1, 11) := ⟨_, _, xc_179, rfl, rfl, by decide, xg_of (i := 1785) rfl rfl, xg_of (i := 1786) rfl rfl, xg_of (i := 1787) rfl rfl⟩
set_option maxRecDepth 100000 in
theorem xML_p8_20 : xm_mq (24, 169, 10, 331, 3, 0) := ⟨_, _, _, xc_331, rfl, xg_of (i := 874) rfl rfl, xg_of (i := 875) rfl rfl⟩
set_option maxRecDepth 100000 in
theorem xML_p8_21 : xm_mq (24, 171, 1, 181, 1, 11) := ⟨_, _, xc_181, rfl, rfl, by decide, xg_of (i := 1797) rfl rfl, xg_of (i := 1798) rfl rfl, xg_of (i := 1799) rfl rfl⟩
set_option maxRecDepth 100000 in
theorem xML_p8_22 : xm_mq (24, 172, 10, 332, 3, 0) := ⟨_, _, _, xc_332, rfl, xg_of (i := 886) rfl rfl, xg_of (i := 887) rfl rfl⟩
set_option maxRecDepth 100000 in
theorem xML_p8_23 : xm_mq (24, 174, 1, 182, 1, 11) := ⟨_, _, xc_182, rfl, rfl, by decide, xg_of (i := 1813) rfl rfl, xg_of (i := 1814) rfl rfl, xg_of (i := 1815) rfl rfl⟩
set_option maxRecDepth 100000 in
theorem xML_p8_24 : xm_mq (24, 175, 10, 333, 3, 0) := ⟨_, _, _, xc_333, rfl, xg_of (i := 900) rfl rfl, xg_of (i := 901) rfl rfl⟩
set_option maxRecDepth 100000 in
theorem xML_p8_25 : xm_mq (24, 177, 1, 183, 1, 11) := ⟨_, _, xc_183, rfl, rfl, by decide, xg_of (i := 1821) rfl rfl, xg_of (i := 1822) rfl rfl, xg_of (i := 1823) rfl rfl⟩
set_option maxRecDepth 100000 in
theorem xML_p8_26 : xm_mq (24, 178, 10, 334, 3, 0) := ⟨_, _, _, xc_334, rfl, xg_of (i := 907) rfl rfl, xg_of (i := 908) rfl rfl⟩
set_option maxRecDepth 100000 in
theorem xML_p8_27 : xm_mq (24, 180, 1, 184, 1, 11) := ⟨_, _, xc_184, rfl, rfl, by decide, xg_of (i := 1825) rfl rfl, xg_of (i := 1826) rfl rfl, xg_of (i := 1827) rfl rfl⟩
set_option maxRecDepth 100000 in
theorem xML_p8_28 : xm_mq (24, 181, 10, 335, 3, 0) := ⟨_, _, _, xc_335, rfl, xg_of (i := 914) rfl rfl, xg_of (i := 915) rfl rfl⟩
set_option maxRecDepth 100000 in
theorem xML_p8_29 : xm_mq (24, 183, 1, 185, 1, 11) := ⟨_, _, xc_185, rfl, rfl, by decide, xg_of (i := 1829) rfl rfl, xg_of (i := 1830) rfl rfl, xg_of (i := 1831) rfl rfl⟩
set_option maxRecDepth 100000 in
theorem xML_p8_30 : xm_mq (24, 184, 10, 336, 3, 0) := ⟨_, _, _, xc_336, rfl, xg_of (i := 921) rfl rfl, xg_of (i := 922) rfl rfl⟩
set_option maxRecDepth 100000 in
theorem xML_p8_31 : xm_mq (24, 186, 1, 186, 1, 11) := ⟨_, _, xc_186, rfl, rfl, by decide, xg_of (i := 1833) rfl rfl, xg_of (i := 1834) rfl rfl, xg_of (i := 1835) rfl rfl⟩
set_option maxRecDepth 100000 in
theorem xML_p8_32 : xm_mq (24, 187, 10, 337, 3, 0) := ⟨_, _, _, xc_337, rfl, xg_of (i := 932) rfl rfl, xg_of (i := 933) rfl rfl⟩
set_option maxRecDepth 100000 in
theorem xML_p8_33 : xm_mq (24, 189, 1, 187, 1, 11) := ⟨_, _, xc_187, rfl, rfl, by decide, xg_of (i := 1841) rfl rfl, xg_of (i := 1842) rfl rfl, xg_of (i := 1843) rfl rfl⟩
set_option maxRecDepth 100000 in
theorem xML_p8_34 : xm_mq (24, 190, 1, 88, 0, 0) := ⟨_, _, xc_88, rfl, rfl, by decide, xg_of (i := 498) rfl rfl, xg_of (i := 499) rfl rfl, xg_of (i := 500) rfl rfl⟩
set_option maxRecDepth 100000 in
theorem xML_p8_35 : xm_mq (24, 193, 1, 188, 0, 11) := ⟨_, _, xc_188, rfl, rfl, by decide, xg_of (i := 1845) rfl rfl, xg_of (i := 1846) rfl rfl, xg_of (i := 1847) rfl rfl⟩
set_option maxRecDepth 100000 in
theorem xML_p8_36 : xm_mq (24, 194, 10, 338, 5, 0) := ⟨_, _, _, xc_338, rfl, xg_of (i := 939) rfl rfl, xg_of (i := 940) rfl rfl⟩
set_option maxRecDepth 100000 in
theorem xML_p8_37 : xm_mq (24, 197, 1, 200, 3, 11) := ⟨_, _, xc_200, rfl, rfl, by decide, xg_of (i := 1849) rfl rfl, xg_of (i := 1850) rfl rfl, xg_of (i := 1851) rfl rfl⟩
set_option maxRecDepth 100000 in
theorem xML_p8_38 : xm_mq (24, 198, 10, 339, 5, 0) := ⟨_, _, _, xc_339, rfl, xg_of (i := 962) rfl rfl, xg_of (i := 963) rfl rfl⟩
set_option maxRecDepth 100000 in
theorem xML_p8_39 : xm_mq (24, 200, 1, 201, 3, 11) := ⟨_, _, xc_201, rfl, rfl, by decide, xg_of (i := 1877) rfl rfl, xg_of (i := 1878) rfl rfl, xg_of (i := 1879) rfl rfl⟩
def xML_8 : List (Nat × Nat × Nat × Nat × Nat × Nat) := [(24, 123, 1, 122, 1, 0), (24, 127, 2, 72, 0, 0), (24, 130, 2, 131, 0, 11), (24, 131, 1, 73, 5, 0), (24, 135, 1, 141, 5, 11), (24, 136, 10, 329, 3, 0), (24, 141, 1, 164, 1, 11), (24, 142, 1, 132, 0, 11), (24, 146, 1, 75, 0, 0), (24, 149, 1, 165, 0, 11), (24, 150, 1, 76, 0, 0), (24, 153, 1, 166, 0, 11), (24, 154, 1, 77, 0, 0), (24, 157, 1, 176, 0, 11), (24, 158, 1, 78, 0, 0), (24, 161, 1, 177, 0, 11), (24, 162, 1, 79, 0, 0), (24, 165, 1, 178, 0, 11), (24, 166, 10, 330, 3, 0), (24, 168, 1, 179, 1, 11), (24, 169, 10, 331, 3, 0), (24, 171, 1, 181, 1, 11), (24, 172, 10, 332, 3, 0), (24, 174, 1, 182, 1, 11), (24, 175, 10, 333, 3, 0), (24, 177, 1, 183, 1, 11), (24, 178, 10, 334, 3, 0), (24, 180, 1, 184, 1, 11), (24, 181, 10, 335, 3, 0), (24, 183, 1, 185, 1, 11), (24, 184, 10, 336, 3, 0), (24, 186, 1, 186, 1, 11), (24, 187, 10, 337, 3, 0), (24, 189, 1, 187, 1, 11), (24, 190, 1, 88, 0, 0), (24, 193, 1, 188, 0, 11), (24, 194, 10, 338, 5, 0), (24, 197, 1, 200, 3, 11), (24, 198, 10, 339, 5, 0), (24, 200, 1, 201, 3, 11)]
theorem xML_ok8 : ∀ q ∈ xML_8, xm_mq q := List.forall_mem_cons.mpr ⟨xML_p8_0, List.forall_mem_cons.mpr ⟨xML_p8_1, List.forall_mem_cons.mpr ⟨xML_p8_2, List.forall_mem_cons.mpr ⟨xML_p8_3, List.forall_mem_cons.mpr ⟨xML_p8_4, List.forall_mem_cons.mpr ⟨xML_p8_5, List.forall_mem_cons.mpr ⟨xML_p8_6, List.forall_mem_cons.mpr ⟨xML_p8_7, List.forall_mem_cons.mpr ⟨xML_p8_8, List.forall_mem_cons.mpr ⟨xML_p8_9, List.forall_mem_cons.mpr ⟨xML_p8_10, List.forall_mem_cons.mpr ⟨xML_p8_11, List.forall_mem_cons.mpr ⟨xML_p8_12, List.forall_mem_cons.mpr ⟨xML_p8_13, List.forall_mem_cons.mpr ⟨xML_p8_14, List.forall_mem_cons.mpr ⟨xML_p8_15, List.forall_mem_cons.mpr ⟨xML_p8_16, List.forall_mem_cons.mpr ⟨xML_p8_17, List.forall_mem_cons.mpr ⟨xML_p8_18, List.forall_mem_cons.mpr ⟨xML_p8_19, List.forall_mem_cons.mpr ⟨xML_p8_20, List.forall_mem_cons.mpr ⟨xML_p8_21, List.forall_mem_cons.mpr ⟨xML_p8_22, List.forall_mem_cons.mpr ⟨xML_p8_23, List.forall_mem_cons.mpr ⟨xML_p8_24, List.forall_mem_cons.mpr ⟨xML_p8_25, List.forall_mem_cons.mpr ⟨xML_p8_26, List.forall_mem_cons.mpr ⟨xML_p8_27, List.forall_mem_cons.mpr ⟨xML_p8_28, List.forall_mem_cons.mpr ⟨xML_p8_29, List.forall_mem_cons.mpr ⟨xML_p8_30, List.forall_mem_cons.mpr ⟨xML_p8_31, List.forall_mem_cons.mpr ⟨xML_p8_32, List.forall_mem_cons.mpr ⟨xML_p8_33, List.forall_mem_cons.mpr ⟨xML_p8_34, List.forall_mem_cons.mpr ⟨xML_p8_35, List.forall_mem_cons.mpr ⟨xML_p8_36, List.forall_mem_cons.mpr ⟨xML_p8_37, List.forall_mem_cons.mpr ⟨xML_p8_38, List.forall_mem_cons.mpr ⟨xML_p8_39, fun _ h => absurd h List.not_mem_nil⟩⟩⟩⟩⟩⟩⟩⟩⟩⟩⟩⟩⟩⟩⟩⟩⟩⟩⟩⟩⟩⟩⟩⟩⟩⟩⟩⟩⟩⟩⟩⟩⟩⟩⟩⟩⟩⟩⟩⟩
set_option maxRecDepth 100000 in
theorem xML_p9_0 : xm_mq (24, 201, 10, 340, 5, 0) := ⟨_, _, _, xc_340, rfl, xg_of (i := 981) rfl rfl, xg_of (i := 982) rfl rfl⟩
set_option maxRecDepth 100000 in
theorem xML_p9_1 : xm_mq (24, 203, 1, 202, 3, 11) := ⟨_, _, xc_202, rfl, rfl, by decide, xg_of (i := 1898) rfl rfl, xg_of (i := 1899) rfl rfl, xg_of (i := 1900) rfl rfl⟩
set_option maxRecDepth 100000 in
theorem xML_p9_2 : xm_mq (24, 204, 10, 341, 5, 0) := ⟨_, _, _, xc_341, rfl, xg_of (i := 1003) rfl rfl, xg_of (i := 1004) rfl rfl⟩
set_option maxRecDepth 100000 in
theorem xML_p9_3 : xm_mq (24, 206, 1, 203, 3, 11) := ⟨_, _, xc_203, rfl, rfl, by decide, xg_of (i := 1902) rfl rfl, xg_of (i := 1903) rfl rfl, xg_of (i := 1904) rfl rfl⟩
set_option maxRecDepth 100000 in
theorem xML_p9_4 : xm_mq (24, 207, 10, 342, 6, 0) := ⟨_, _, _, xc_342, rfl, xg_of (i := 1010) rfl rfl, xg_of (i := 1011) rfl rfl⟩
set_option maxRecDepth 100000 in
theorem xML_p9_5 : xm_mq (24, 210, 1, 205, 4, 11) := ⟨_, _, xc_205, rfl, rfl, by decide, xg_of (i := 1906) rfl rfl, xg_of (i := 1907) rfl rfl, xg_of (i := 1908) rfl rfl⟩
set_option maxRecDepth 100000 in
theorem xML_p9_6 : xm_mq (24, 211, 10, 343, 5, 0) := ⟨_, _, _, xc_343, rfl, xg_of (i := 1030) rfl rfl, xg_of (i := 1031) rfl rfl⟩
set_option maxRecDepth 100000 in
theorem xML_p9_7 : xm_mq (24, 213, 1, 207, 3, 11) := ⟨_, _, xc_207, rfl, rfl, by decide, xg_of (i := 1922) rfl rfl, xg_of (i := 1923) rfl rfl, xg_of (i := 1924) rfl rfl⟩
set_option maxRecDepth 100000 in
theorem xML_p9_8 : xm_mq (24, 214, 10, 344, 5, 0) := ⟨_, _, _, xc_344, rfl, xg_of (i := 1050) rfl rfl, xg_of (i := 1051) rfl rfl⟩
set_option maxRecDepth 100000 in
theorem xML_p9_9 : xm_mq (24, 216, 1, 210, 3, 11) := ⟨_, _, xc_210, rfl, rfl, by decide, xg_of (i := 1930) rfl rfl, xg_of (i := 1931) rfl rfl, xg_of (i := 1932) rfl rfl⟩
set_option maxRecDepth 100000 in
theorem xML_p9_10 : xm_mq (24, 217, 10, 345, 6, 0) := ⟨_, _, _, xc_345, rfl, xg_of (i := 1080) rfl rfl, xg_of (i := 1081) rfl rfl⟩
set_option maxRecDepth 100000 in
theorem xML_p9_11 : xm_mq (24, 219, 1, 211, 4, 11) := ⟨_, _, xc_211, rfl, rfl, by decide, xg_of (i := 1959) rfl rfl, xg_of (i := 1960) rfl rfl, xg_of (i := 1961) rfl rfl⟩
set_option maxRecDepth 100000 in
theorem xML_p9_12 : xm_mq (24, 220, 10, 346, 6, 0) := ⟨_, _, _, xc_346, rfl, xg_of (i := 1087) rfl rfl, xg_of (i := 1088) rfl rfl⟩
set_option maxRecDepth 100000 in
theorem xML_p9_13 : xm_mq (24, 222, 1, 213, 4, 11) := ⟨_, _, xc_213, rfl, rfl, by decide, xg_of (i := 1963) rfl rfl, xg_of (i := 1964) rfl rfl, xg_of (i := 1965) rfl rfl⟩
set_option maxRecDepth 100000 in
theorem xML_p9_14 : xm_mq (24, 223, 10, 347, 5, 0) := ⟨_, _, _, xc_347, rfl, xg_of (i := 1102) rfl rfl, xg_of (i := 1103) rfl rfl⟩
set_option maxRecDepth 100000 in
theorem xML_p9_15 : xm_mq (24, 225, 1, 214, 3, 11) := ⟨_, _, xc_214, rfl, rfl, by decide, xg_of (i := 1971) rfl rfl, xg_of (i := 1972) rfl rfl, xg_of (i := 1973) rfl rfl⟩
set_option maxRecDepth 100000 in
theorem xML_p9_16 : xm_mq (24, 226, 10, 348, 3, 0) := ⟨_, _, _, xc_348, rfl, xg_of (i := 1131) rfl rfl, xg_of (i := 1132) rfl rfl⟩
set_option maxRecDepth 100000 in
theorem xML_p9_17 : xm_mq (24, 228, 1, 215, 1, 11) := ⟨_, _, xc_215, rfl, rfl, by decide, xg_of (i := 1984) rfl rfl, xg_of (i := 1985) rfl rfl, xg_of (i := 1986) rfl rfl⟩
set_option maxRecDepth 100000 in
theorem xML_p9_18 : xm_mq (24, 229, 10, 349, 4, 0) := ⟨_, _, _, xc_349, rfl, xg_of (i := 1139) rfl rfl, xg_of (i := 1140) rfl rfl⟩
set_option maxRecDepth 100000 in
theorem xML_p9_19 : xm_mq (24, 232, 1, 221, 2, 11) := ⟨_, _, xc_221, rfl, rfl, by decide, xg_of (i := 1990) rfl rfl, xg_of (i := 1991) rfl rfl, xg_of (i := 1992) rfl rfl⟩
set_option maxRecDepth 100000 in
theorem xML_p9_20 : xm_mq (24, 233, 10, 350, 3, 0) := ⟨_, _, _, xc_350, rfl, xg_of (i := 1159) rfl rfl, xg_of (i := 1160) rfl rfl⟩
set_option maxRecDepth 100000 in
theorem xML_p9_21 : xm_mq (24, 235, 1, 223, 1, 11) := ⟨_, _, xc_223, rfl, rfl, by decide, xg_of (i := 2010) rfl rfl, xg_of (i := 2011) rfl rfl, xg_of (i := 2012) rfl rfl⟩
set_option maxRecDepth 100000 in
theorem xML_p9_22 : xm_mq (24, 236, 10, 351, 3, 0) := ⟨_, _, _, xc_351, rfl, xg_of (i := 1168) rfl rfl, xg_of (i := 1169) rfl rfl⟩
set_option maxRecDepth 100000 in
theorem xML_p9_23 : xm_mq (24, 238, 1, 224, 1, 11) := ⟨_, _, xc_224, rfl, rfl, by decide, xg_of (i := 2018) rfl rfl, xg_of (i := 2019) rfl rfl, xg_of (i := 2020) rfl rfl⟩
set_option maxRecDepth 100000 in
theorem xML_p9_24 : xm_mq (24, 239, 10, 352, 4, 0) := ⟨_, _, _, xc_352, rfl, xg_of (i := 1176) rfl rfl, xg_of (i := 1177) rfl rfl⟩
set_option maxRecDepth 100000 in
theorem xML_p9_25 : xm_mq (24, 241, 1, 225, 2, 11) := ⟨_, _, xc_225, rfl, rfl, by decide, xg_of (i := 2022) rfl rfl, xg_of (i := 2023) rfl rfl, xg_of (i := 2024) rfl rfl⟩
set_option maxRecDepth 100000 in
theorem xML_p9_26 : xm_mq (24, 242, 10, 353, 4, 0) := ⟨_, _, _, xc_353, rfl, xg_of (i := 1183) rfl rfl, xg_of (i := 1184) rfl rfl⟩
set_option maxRecDepth 100000 in
theorem xML_p9_27 : xm_mq (24, 244, 1, 226, 2, 11) := ⟨_, _, xc_226, rfl, rfl, by decide, xg_of (i := 2027) rfl rfl, xg_of (i := 2028) rfl rfl, xg_of (i := 2029) rfl rfl⟩
set_option maxRecDepth 100000 in
theorem xML_p9_28 : xm_mq (24, 245, 10, 354, 4, 0) := ⟨_, _, _, xc_354, rfl, xg_of (i := 1191) rfl rfl, xg_of (i := 1192) rfl rfl⟩
set_option maxRecDepth 100000 in
theorem xML_p9_29 : xm_mq (24, 247, 1, 227, 2, 11) := ⟨_, _, xc_227, rfl, rfl, by decide, xg_of (i := 2031) rfl rfl, xg_of (i := 2032) rfl rfl, xg_of (i := 2033) rfl rfl⟩
set_option maxRecDepth 100000 in
theorem xML_p9_30 : xm_mq (24, 248, 10, 355, 4, 0) := ⟨_, _, _, xc_355, rfl, xg_of (i := 1198) rfl rfl, xg_of (i := 1199) rfl rfl⟩
set_option maxRecDepth 100000 in
theorem xML_p9_31 : xm_mq (24, 250, 1, 228, 2, 11) := ⟨_, _, xc_228, rfl, rfl, by decide, xg_of (i := 2036) rfl rfl, xg_of (i := 2037) rfl rfl, xg_of (i := 2038) rfl rfl⟩
set_option maxRecDepth 100000 in
theorem xML_p9_32 : xm_mq (24, 251, 1, 109, 0, 0) := ⟨_, _, xc_109, rfl, rfl, by decide, xg_of (i := 502) rfl rfl, xg_of (i := 503) rfl rfl, xg_of (i := 504) rfl rfl⟩
set_option maxRecDepth 100000 in
theorem xML_p9_33 : xm_mq (24, 254, 1, 139, 0, 11) := ⟨_, _, xc_139, rfl, rfl, by decide, xg_of (i := 1654) rfl rfl, xg_of (i := 1655) rfl rfl, xg_of (i := 1656) rfl rfl⟩
set_option maxRecDepth 100000 in
theorem xML_p9_34 : xm_mq (24, 255, 1, 110, 0, 0) := ⟨_, _, xc_110, rfl, rfl, by decide, xg_of (i := 517) rfl rfl, xg_of (i := 518) rfl rfl, xg_of (i := 519) rfl rfl⟩
set_option maxRecDepth 100000 in
theorem xML_p9_35 : xm_mq (24, 258, 1, 229, 0, 11) := ⟨_, _, xc_229, rfl, rfl, by decide, xg_of (i := 2040) rfl rfl, xg_of (i := 2041) rfl rfl, xg_of (i := 2042) rfl rfl⟩
set_option maxRecDepth 100000 in
theorem xML_p9_36 : xm_mq (24, 259, 10, 356, 4, 0) := ⟨_, _, _, xc_356, rfl, xg_of (i := 1205) rfl rfl, xg_of (i := 1206) rfl rfl⟩
set_option maxRecDepth 100000 in
theorem xML_p9_37 : xm_mq (24, 261, 1, 230, 2, 11) := ⟨_, _, xc_230, rfl, rfl, by decide, xg_of (i := 2044) rfl rfl, xg_of (i := 2045) rfl rfl, xg_of (i := 2046) rfl rfl⟩
set_option maxRecDepth 100000 in
theorem xML_p9_38 : xm_mq (24, 262, 1, 112, 0, 0) := ⟨_, _, xc_112, rfl, rfl, by decide, xg_of (i := 521) rfl rfl, xg_of (i := 522) rfl rfl, xg_of (i := 523) rfl rfl⟩
set_option maxRecDepth 100000 in
theorem xML_p9_39 : xm_mq (24, 265, 1, 231, 0, 11) := ⟨_, _, xc_231, rfl, rfl, by decide, xg_of (i := 2049) rfl rfl, xg_of (i := 2050) rfl rfl, xg_of (i := 2051) rfl rfl⟩
def xML_9 : List (Nat × Nat × Nat × Nat × Nat × Nat) := [(24, 201, 10, 340, 5, 0), (24, 203, 1, 202, 3, 11), (24, 204, 10, 341, 5, 0), (24, 206, 1, 203, 3, 11), (24, 207, 10, 342, 6, 0), (24, 210, 1, 205, 4, 11), (24, 211, 10, 343, 5, 0), (24, 213, 1, 207, 3, 11), (24, 214, 10, 344, 5, 0), (24, 216, 1, 210, 3, 11), (24, 217, 10, 345, 6, 0), (24, 219, 1, 211, 4, 11), (24, 220, 10, 346, 6, 0), (24, 222, 1, 213, 4, 11), (24, 223, 10, 347, 5, 0), (24, 225, 1, 214, 3, 11), (24, 226, 10, 348, 3, 0), (24, 228, 1, 215, 1, 11), (24, 229, 10, 349, 4, 0), (24, 232, 1, 221, 2, 11), (24, 233, 10, 350, 3, 0), (24, 235, 1, 223, 1, 11), (24, 236, 10, 351, 3, 0), (24, 238, 1, 224, 1, 11), (24, 239, 10, 352, 4, 0), (24, 241, 1, 225, 2, 11), (24, 242, 10, 353, 4, 0), (24, 244, 1, 226, 2, 11), (24, 245, 10, 354, 4, 0), (24, 247, 1, 227, 2, 11), (24, 248, 10, 355, 4, 0), (24, 250, 1, 228, 2, 11), (24, 251, 1, 109, 0, 0), (24, 254, 1, 139, 0, 11), (24, 255, 1, 110, 0, 0), (24, 258, 1, 229, 0, 11), (24, 259, 10, 356, 4, 0), (24, 261, 1, 230, 2, 11), (24, 262, 1, 112, 0, 0), (24, 265, 1, 231, 0, 11)]
theorem xML_ok9 : ∀ q ∈ xML_9, xm_mq q := List.forall_mem_cons.mpr ⟨xML_p9_0, List.forall_mem_cons.mpr ⟨xML_p9_1, List.forall_mem_cons.mpr ⟨xML_p9_2, List.forall_mem_cons.mpr ⟨xML_p9_3, List.forall_mem_cons.mpr ⟨xML_p9_4, List.forall_mem_cons.mpr ⟨xML_p9_5, List.forall_mem_cons.mpr ⟨xML_p9_6, List.forall_mem_cons.mpr ⟨xML_p9_7, List.forall_mem_cons.mpr ⟨xML_p9_8, List.forall_mem_cons.mpr ⟨xML_p9_9, List.forall_mem_cons.mpr ⟨xML_p9_10, List.forall_mem_cons.mpr ⟨xML_p9_11, List.forall_mem_cons.mpr ⟨xML_p9_12, List.forall_mem_cons.mpr ⟨xML_p9_13, List.forall_mem_cons.mpr ⟨xML_p9_14, List.forall_mem_cons.mpr ⟨xML_p9_15, List.forall_mem_cons.mpr ⟨xML_p9_16, List.forall_mem_cons.mpr ⟨xML_p9_17, List.forall_mem_cons.mpr ⟨xML_p9_18, List.forall_mem_cons.mpr ⟨xML_p9_19, List.forall_mem_cons.mpr ⟨xML_p9_20, List.forall_mem_cons.mpr ⟨xML_p9_21, List.forall_mem_cons.mpr ⟨xML_p9_22, List.forall_mem_cons.mpr ⟨xML_p9_23, List.forall_mem_cons.mpr ⟨xML_p9_24, List.forall_mem_cons.mpr ⟨xML_p9_25, List.forall_mem_cons.mpr ⟨xML_p9_26, List.forall_mem_cons.mpr ⟨xML_p9_27, List.forall_mem_cons.mpr ⟨xML_p9_28, List.forall_mem_cons.mpr ⟨xML_p9_29, List.forall_mem_cons.mpr ⟨xML_p9_30, List.forall_mem_cons.mpr ⟨xML_p9_31, List.forall_mem_cons.mpr ⟨xML_p9_32, List.forall_mem_cons.mpr ⟨xML_p9_33, List.forall_mem_cons.mpr ⟨xML_p9_34, List.forall_mem_cons.mpr ⟨xML_p9_35, List.forall_mem_cons.mpr ⟨xML_p9_36, List.forall_mem_cons.mpr ⟨xML_p9_37, List.forall_mem_cons.mpr ⟨xML_p9_38, List.forall_mem_cons.mpr ⟨xML_p9_39, fun _ h => absurd h List.not_mem_nil⟩⟩⟩⟩⟩⟩⟩⟩⟩⟩⟩⟩⟩⟩⟩⟩⟩⟩⟩⟩⟩⟩⟩⟩⟩⟩⟩⟩⟩⟩⟩⟩⟩⟩⟩⟩⟩⟩⟩⟩
set_option maxRecDepth 100000 in
theorem xML_p10_0 : xm_mq (24, 266, 10, 357, 3, 0) := ⟨_, _, _, xc_357, rfl, xg_of (i := 1217) rfl rfl, xg_of (i := 1218) rfl rfl⟩
set_option maxRecDepth 100000 in
theorem xML_p10_1 : xm_mq (24, 268, 1, 233, 1, 11) := ⟨_, _, xc_233, rfl, rfl, by decide, xg_of (i := 2053) rfl rfl, xg_of (i := 2054) rfl rfl, xg_of (i := 2055) rfl rfl⟩
set_option maxRecDepth 100000 in
theorem xML_p10_2 : xm_mq (24, 269, 10, 358, 3, 0) := ⟨_, _, _, xc_358, rfl, xg_of (i := 1234) rfl rfl, xg_of (i := 1235) rfl rfl⟩
set_option maxRecDepth 100000 in
theorem xML_p10_3 : xm_mq (24, 272, 1, 234, 1, 11) := ⟨_, _, xc_234, rfl, rfl, by decide, xg_of (i := 2061) rfl rfl, xg_of (i := 2062) rfl rfl, xg_of (i := 2063) rfl rfl⟩
set_option maxRecDepth 100000 in
theorem xML_p10_4 : xm_mq (24, 273, 10, 359, 4, 0) := ⟨_, _, _, xc_359, rfl, xg_of (i := 1244) rfl rfl, xg_of (i := 1245) rfl rfl⟩
set_option maxRecDepth 100000 in
theorem xML_p10_5 : xm_mq (24, 275, 1, 235, 2, 11) := ⟨_, _, xc_235, rfl, rfl, by decide, xg_of (i := 2065) rfl rfl, xg_of (i := 2066) rfl rfl, xg_of (i := 2067) rfl rfl⟩
set_option maxRecDepth 100000 in
theorem xML_p10_6 : xm_mq (24, 276, 1, 116, 0, 0) := ⟨_, _, xc_116, rfl, rfl, by decide, xg_of (i := 529) rfl rfl, xg_of (i := 530) rfl rfl, xg_of (i := 531) rfl rfl⟩
set_option maxRecDepth 100000 in
theorem xML_p10_7 : xm_mq (24, 279, 1, 237, 0, 11) := ⟨_, _, xc_237, rfl, rfl, by decide, xg_of (i := 2069) rfl rfl, xg_of (i := 2070) rfl rfl, xg_of (i := 2071) rfl rfl⟩
set_option maxRecDepth 100000 in
theorem xML_p10_8 : xm_mq (24, 280, 10, 360, 3, 0) := ⟨_, _, _, xc_360, rfl, xg_of (i := 1251) rfl rfl, xg_of (i := 1252) rfl rfl⟩
set_option maxRecDepth 100000 in
theorem xML_p10_9 : xm_mq (24, 282, 1, 238, 1, 11) := ⟨_, _, xc_238, rfl, rfl, by decide, xg_of (i := 2077) rfl rfl, xg_of (i := 2078) rfl rfl, xg_of (i := 2079) rfl rfl⟩
set_option maxRecDepth 100000 in
theorem xML_p10_10 : xm_mq (24, 283, 1, 118, 0, 0) := ⟨_, _, xc_118, rfl, rfl, by decide, xg_of (i := 537) rfl rfl, xg_of (i := 538) rfl rfl, xg_of (i := 539) rfl rfl⟩
set_option maxRecDepth 100000 in
theorem xML_p10_11 : xm_mq (24, 286, 1, 239, 0, 11) := ⟨_, _, xc_239, rfl, rfl, by decide, xg_of (i := 2081) rfl rfl, xg_of (i := 2082) rfl rfl, xg_of (i := 2083) rfl rfl⟩
set_option maxRecDepth 100000 in
theorem xML_p10_12 : xm_mq (24, 287, 10, 361, 4, 0) := ⟨_, _, _, xc_361, rfl, xg_of (i := 1258) rfl rfl, xg_of (i := 1259) rfl rfl⟩
set_option maxRecDepth 100000 in
theorem xML_p10_13 : xm_mq (24, 290, 1, 242, 2, 11) := ⟨_, _, xc_242, rfl, rfl, by decide, xg_of (i := 2085) rfl rfl, xg_of (i := 2086) rfl rfl, xg_of (i := 2087) rfl rfl⟩
set_option maxRecDepth 100000 in
theorem xML_p10_14 : xm_mq (24, 291, 1, 120, 0, 0) := ⟨_, _, xc_120, rfl, rfl, by decide, xg_of (i := 541) rfl rfl, xg_of (i := 542) rfl rfl, xg_of (i := 543) rfl rfl⟩
set_option maxRecDepth 100000 in
theorem xML_p10_15 : xm_mq (24, 294, 1, 243, 0, 11) := ⟨_, _, xc_243, rfl, rfl, by decide, xg_of (i := 2101) rfl rfl, xg_of (i := 2102) rfl rfl, xg_of (i := 2103) rfl rfl⟩
set_option maxRecDepth 100000 in
theorem xML_p10_16 : xm_mq (24, 295, 10, 362, 3, 0) := ⟨_, _, _, xc_362, rfl, xg_of (i := 1270) rfl rfl, xg_of (i := 1271) rfl rfl⟩
set_option maxRecDepth 100000 in
theorem xML_p10_17 : xm_mq (24, 297, 1, 249, 1, 11) := ⟨_, _, xc_249, rfl, rfl, by decide, xg_of (i := 2105) rfl rfl, xg_of (i := 2106) rfl rfl, xg_of (i := 2107) rfl rfl⟩
set_option maxRecDepth 100000 in
theorem xML_p10_18 : xm_mq (24, 298, 10, 363, 3, 0) := ⟨_, _, _, xc_363, rfl, xg_of (i := 1519) rfl rfl, xg_of (i := 1520) rfl rfl⟩
set_option maxRecDepth 100000 in
theorem xML_p10_19 : xm_mq (24, 300, 1, 250, 1, 11) := ⟨_, _, xc_250, rfl, rfl, by decide, xg_of (i := 2133) rfl rfl, xg_of (i := 2134) rfl rfl, xg_of (i := 2135) rfl rfl⟩
def xML_10 : List (Nat × Nat × Nat × Nat × Nat × Nat) := [(24, 266, 10, 357, 3, 0), (24, 268, 1, 233, 1, 11), (24, 269, 10, 358, 3, 0), (24, 272, 1, 234, 1, 11), (24, 273, 10, 359, 4, 0), (24, 275, 1, 235, 2, 11), (24, 276, 1, 116, 0, 0), (24, 279, 1, 237, 0, 11), (24, 280, 10, 360, 3, 0), (24, 282, 1, 238, 1, 11), (24, 283, 1, 118, 0, 0), (24, 286, 1, 239, 0, 11), (24, 287, 10, 361, 4, 0), (24, 290, 1, 242, 2, 11), (24, 291, 1, 120, 0, 0), (24, 294, 1, 243, 0, 11), (24, 295, 10, 362, 3, 0), (24, 297, 1, 249, 1, 11), (24, 298, 10, 363, 3, 0), (24, 300, 1, 250, 1, 11)]
theorem xML_ok10 : ∀ q ∈ xML_10, xm_mq q := List.forall_mem_cons.mpr ⟨xML_p10_0, List.forall_mem_cons.mpr ⟨xML_p10_1, List.forall_mem_cons.mpr ⟨xML_p10_2, List.forall_mem_cons.mpr ⟨xML_p10_3, List.forall_mem_cons.mpr ⟨xML_p10_4, List.forall_mem_cons.mpr ⟨xML_p10_5, List.forall_mem_cons.mpr ⟨xML_p10_6, List.forall_mem_cons.mpr ⟨xML_p10_7, List.forall_mem_cons.mpr ⟨xML_p10_8, List.forall_mem_cons.mpr ⟨xML_p10_9, List.forall_mem_cons.mpr ⟨xML_p10_10, List.forall_mem_cons.mpr ⟨xML_p10_11, List.forall_mem_cons.mpr ⟨xML_p10_12, List.forall_mem_cons.mpr ⟨xML_p10_13, List.forall_mem_cons.mpr ⟨xML_p10_14, List.forall_mem_cons.mpr ⟨xML_p10_15, List.forall_mem_cons.mpr ⟨xML_p10_16, List.forall_mem_cons.mpr ⟨xML_p10_17, List.forall_mem_cons.mpr ⟨xML_p10_18, List.forall_mem_cons.mpr ⟨xML_p10_19, fun _ h => absurd h List.not_mem_nil⟩⟩⟩⟩⟩⟩⟩⟩⟩⟩⟩⟩⟩⟩⟩⟩⟩⟩⟩⟩
def xML : List (Nat × Nat × Nat × Nat × Nat × Nat) := xML_0 ++ (xML_1 ++ (xML_2 ++ (xML_3 ++ (xML_4 ++ (xML_5 ++ (xML_6 ++ (xML_7 ++ (xML_8 ++ (xML_9 ++ (xML_10))))))))))
theorem xML_ok : ∀ q ∈ xML, xm_mq q := List.forall_mem_append.mpr ⟨xML_ok0, List.forall_mem_append.mpr ⟨xML_ok1, List.forall_mem_append.mpr ⟨xML_ok2, List.forall_mem_append.mpr ⟨xML_ok3, List.forall_mem_append.mpr ⟨xML_ok4, List.forall_mem_append.mpr ⟨xML_ok5, List.forall_mem_append.mpr ⟨xML_ok6, List.forall_mem_append.mpr ⟨xML_ok7, List.forall_mem_append.mpr ⟨xML_ok8, List.forall_mem_append.mpr ⟨xML_ok9, xML_ok10⟩⟩⟩⟩⟩⟩⟩⟩⟩⟩
