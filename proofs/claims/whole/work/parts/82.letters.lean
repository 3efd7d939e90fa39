/-! load: a name made out of a word -/
section Let
variable {N x p s e κ c i a a2 k : Nat} {b : Nat → Nat} {w : List Nat} {h g : xm_H}
theorem zks12 : xm_ks (12, 0) ≤ 10 := by decide
theorem zcoder0 {n : Nat} (hk : xm_k g n = (102, k)) (hk2 : k ≤ 100) : f_J2_coderFromArrayLen_85cad n (nI k) g = some (0, g) := by
  unfold f_J2_coderFromArrayLen_85cad
  have e0 : nI k - Int32.ofNat (xm_k g n).2 = 0 := by
    rw [hk]
    show nI k - nI k = 0
    rw [pk_sub (Nat.le_refl _), Nat.sub_self]
    rfl
  rw [if_pos (by rw [hk]; exact ⟨show 100 ≤ 102 by decide, show 102 < 109 by decide⟩), e0, if_pos (by decide +kernel)]
  rfl
theorem zc_letters (hN : 1000 ≤ N) (hf : zTf b x s e κ) (hT : zTc b x s e κ h) (hκ : κ = 1) (hn : 318 ≤ xm_n h) : ∃ g, f_X9_letters N h = some (xm_n h + 1, g) ∧ zX (fun _ _ => False) h g ∧ xm_n g = xm_n h + 3 ∧ xm_sz g ≤ xm_sz h + 60 ∧ zStr g (xm_n h + 1) (xm_n h + 2) (zWd b s (e - s)) := by
  obtain ⟨f1, f2, f3, f4, f5, f6, f7, f8⟩ := hf
  obtain ⟨t1, t2, t3, t4, t5, t6⟩ := hT
  obtain ⟨w1, w2, w3⟩ := f7 hκ
  rw [zWd_len] at w1 w2
  have wb : ∀ j, j < e - s → b (s + j) < 128 := fun j hj => by
    have := w3 (b (s + j)) (List.mem_of_getElem? (zWd_get hj))
    omega
  have hse : e = s + (e - s) := by omega
  unfold f_X9_letters
  rw [t5, t3, if_pos (nI_lt (by omega) (by omega)), pk_sub (by omega), nI_clamp (by omega), if_pos ⟨nI_pos (by omega), by omega⟩]
  simp only [xl]
  generalize e - s = k at w1 w2 wb hse ⊢
  have k0 : xm_k (xm_new h (103, k)) (xm_n h) = (103, k) := if_pos rfl
  obtain ⟨m, ⟨c, g1⟩, ⟨i1, i2, i3⟩, hE⟩ := zlpO (N := N) (F := fun n t => fun K => f_X9_letters_29 N (xm_n h) K n t.1 t.2) (I := fun i t => t.1 = nI i ∧ zF (fun a _ => a = xm_n h) (xm_new h (103, k)) t.2 ∧ ∀ j, j < i → xm_i t.2 (xm_n h) j = nI (b (s + j))) (L := k) (s := (0, xm_new h (103, k))) (by omega) ⟨rfl, zF.rf, fun j hj => by omega⟩ (by
    rintro m i ⟨c, g⟩ hi ⟨i1, i2, i3⟩
    dsimp only at i1 i2 i3
    subst i1
    have hb := t1 (s + i) (by omega)
    have gk : xm_k g (xm_n h) = (103, k) := (i2.k _).trans k0
    have g5 : xm_i g 162 5 = nI s := by rw [i2.i (by omega), xi_new (by omega)]; exact t5
    have gb : xm_i g 163 (s + i) = nI (b (s + i)) := by rw [i2.i (by omega), xi_new (by omega)]; exact hb.1
    refine ⟨(nI (i + 1), xm_si g (xm_n h) i (nI (b (s + i)))), ⟨rfl, i2.st rfl, fun j hj => ?_⟩, ?_⟩
    · by_cases hj2 : j = i
      · rw [hj2]
        exact xi_eq
      · dsimp only
        rw [xi_nk hj2]
        exact i3 j (by omega)
    · funext K
      show f_X9_letters_29B N (xm_n h) K (f_X9_letters_29 N (xm_n h) K m) (nI i) g = f_X9_letters_29 N (xm_n h) K m (nI (i + 1)) (xm_si g (xm_n h) i (nI (b (s + i))))
      unfold f_X9_letters_29B
      rw [if_pos (by rw [gk]; exact ⟨show 100 ≤ 103 by decide, show 103 < 109 by decide⟩), if_pos (by rw [gk]; exact nI_lt hi (by omega)), g5, nI_add, if_pos (zb_in (by omega) (by decide)), if_pos (by rw [gk]), if_pos (by rw [gk]; exact zb_in hi (by show k < _; omega)), if_pos (by omega), nI_clamp (by omega), nI_clamp (by omega), gb, (znar_c ⟨b (s + i), by omega⟩).2.2, nI_1]
      rfl)
  dsimp only at i1 i2 i3
  subst i1
  have hE2 : ∀ K, f_X9_letters_29 N (xm_n h) K N (0 : Int32) (xm_new h (103, k)) = K g1 := fun K => by
    refine (congrFun hE K).trans ?_
    show f_X9_letters_29B N (xm_n h) K (f_X9_letters_29 N (xm_n h) K m) (nI k) g1 = _
    have gk : xm_k g1 (xm_n h) = (103, k) := (i2.k _).trans k0
    unfold f_X9_letters_29B
    rw [if_pos (by rw [gk]; exact ⟨show 100 ≤ 103 by decide, show 103 < 109 by decide⟩), if_neg (by rw [gk]; exact nI_nlt (Nat.le_refl k) (by omega))]
  rw [hE2]
  have n1 : xm_n g1 = xm_n h + 1 := i2.n
  have hk1 : xm_k g1 (xm_n h) = (103, k) := (i2.k _).trans k0
  have hk5 : xm_k (xm_new g1 (12, 0)) (xm_n h) = (103, k) := (if_neg (show ¬ xm_n h = xm_n g1 by omega)).trans hk1
  have hk5a : xm_k (xm_new g1 (12, 0)) (xm_n g1) = (12, 0) := if_pos rfl
  have n5 : xm_n (xm_new g1 (12, 0)) = xm_n h + 2 := by show xm_n g1 + 1 = _; omega
  have hi5 : ∀ j, j < k → xm_i (xm_new g1 (12, 0)) (xm_n h) j = nI (b (s + j)) := fun j hj => by rw [xi_new (by omega)]; exact i3 j hj
  have hX5 : zX (fun a _ => xm_n h ≤ a) h (xm_new g1 (12, 0)) := (zX.new (103, k)).tr ((i2.x.mono (fun a k z => by omega)).tr (zX.new (12, 0)))
  have s5 : xm_sz (xm_new g1 (12, 0)) ≤ xm_sz h + k + 10 := by
    rw [xm_sz_new, i2.sz, xm_sz_new]
    have := zks12
    have h2 : xm_ks (103, k) = k := rfl
    omega
  generalize xm_new g1 (12, 0) = h5 at hk5 hk5a n5 hi5 hX5 s5 ⊢
  rw [n1] at hk5a ⊢
  have hk7 : xm_k (xm_new h5 (102, k)) (xm_n h5) = (102, k) := if_pos rfl
  have hk7b : xm_k (xm_new h5 (102, k)) (xm_n h) = (103, k) := (if_neg (show ¬ xm_n h = xm_n h5 by omega)).trans hk5
  have hk7a : xm_k (xm_new h5 (102, k)) (xm_n h + 1) = (12, 0) := (if_neg (show ¬ xm_n h + 1 = xm_n h5 by omega)).trans hk5a
  obtain ⟨m2, ⟨c1, c2, c3, g2⟩, ⟨j1, j2, j3, j4, j5⟩, hE3⟩ := zlpO (N := N) (F := fun n t => f_J2_compress_fe38e_3 N (xm_n h) (xm_n h5) (nI k) n t.1 t.2.1 t.2.2.1 t.2.2.2) (I := fun i t => t.1 = nI i ∧ t.2.1 = nI i ∧ t.2.2.1 = nI i ∧ zF (fun a _ => a = xm_n h5) (xm_new h5 (102, k)) t.2.2.2 ∧ ∀ j, j < i → xm_i t.2.2.2 (xm_n h5) j = nI (b (s + j))) (L := k) (s := (0, 0, 0, xm_new h5 (102, k))) (by omega) ⟨rfl, rfl, rfl, zF.rf, fun j hj => by omega⟩ (by
    rintro m i ⟨c1, c2, c3, g⟩ hi ⟨j1, j2, j3, j4, j5⟩
    dsimp only at j1 j2 j3 j4 j5
    subst j1
    subst j2
    subst j3
    have gk : xm_k g (xm_n h) = (103, k) := (j4.k _).trans hk7b
    have gk2 : xm_k g (xm_n h5) = (102, k) := (j4.k _).trans hk7
    have gb : xm_i g (xm_n h) (nI i).toNatClampNeg = nI (b (s + i)) := by rw [nI_clamp (by omega), j4.i (by omega), xi_new (by omega)]; exact hi5 i hi
    have hb := wb i hi
    refine ⟨(nI (i + 1), nI (i + 1), nI (i + 1), xm_si g (xm_n h5) i (nI (b (s + i)))), ⟨rfl, rfl, rfl, j4.st rfl, fun j hj => ?_⟩, ?_⟩
    · by_cases hj2 : j = i
      · rw [hj2]
        exact xi_eq
      · dsimp only
        rw [xi_nk hj2]
        exact j5 j (by omega)
    · show f_J2_compress_fe38e_3B N (xm_n h) (xm_n h5) (nI k) (f_J2_compress_fe38e_3 N (xm_n h) (xm_n h5) (nI k) m) (nI i) (nI i) (nI i) g = f_J2_compress_fe38e_3 N (xm_n h) (xm_n h5) (nI k) m (nI (i + 1)) (nI (i + 1)) (nI (i + 1)) (xm_si g (xm_n h5) i (nI (b (s + i))))
      unfold f_J2_compress_fe38e_3B
      rw [if_pos (nI_lt hi (by omega)), if_pos (by rw [gk]), if_pos (by rw [gk]; exact zb_in hi (by show k < _; omega)), gb, if_neg (show ¬ (255 : Int32) < nI (b (s + i)) from nI_nlt (a := 255) (by omega) (by omega)), if_pos (by rw [gk2]), if_pos (by rw [gk2]; exact zb_in hi (by show k < _; omega)), if_pos (by omega), nI_clamp (by omega), (znar_7 ⟨b (s + i), hb⟩).1, nI_1]
      rfl)
  dsimp only at j1 j2 j3 j4 j5
  subst j1
  subst j2
  subst j3
  have gk2 : xm_k g2 (xm_n h5) = (102, k) := (j4.k _).trans hk7
  have gka : xm_k g2 (xm_n h + 1) = (12, 0) := (j4.k _).trans hk7a
  have hcp : f_J2_compress_fe38e N (xm_n h) 0 (xm_n h5) 0 (nI k) (xm_new h5 (102, k)) = some (nI k, g2) := by
    unfold f_J2_compress_fe38e
    refine hE3.trans ?_
    show f_J2_compress_fe38e_3B N (xm_n h) (xm_n h5) (nI k) (f_J2_compress_fe38e_3 N (xm_n h) (xm_n h5) (nI k) m2) (nI k) (nI k) (nI k) g2 = _
    unfold f_J2_compress_fe38e_3B
    rw [if_neg (nI_nlt (Nat.le_refl k) (by omega))]
  have hlen : Int32.ofNat (xm_k h5 (xm_n h)).2 = nI k := by rw [hk5]; rfl
  have hini : f_J0_init_905df N (xm_n h + 1) (xm_n h) h5 = some ((), xm_sr (xm_si g2 (xm_n h + 1) 1 0) (xm_n h + 1) 0 (some (xm_n h5))) := by
    unfold f_J0_init_905df f_J0_init_bb550 f_J2_compress_dfd3c
    rw [if_pos (by rw [hk5]; exact ⟨show 100 ≤ 103 by decide, show 103 < 109 by decide⟩), if_pos (by rw [hk5a]), hlen, if_neg (nI_ne0 (by omega) (by omega)), if_pos ⟨nI_pos (by omega), by rw [nI_clamp (by omega)]; omega⟩, nI_clamp (by omega)]
    simp only [xl]
    rw [hcp, xb_some, if_pos rfl, xb_some, zcoder0 gk2 (by omega), xb_some, if_pos (by rw [gka]), if_pos (by omega), if_pos rfl, if_pos (show (xm_k (xm_si g2 (xm_n h + 1) 1 0) (xm_n h + 1)).1 = 12 by show (xm_k g2 (xm_n h + 1)).1 = 12; rw [gka]), if_pos (by omega), if_pos (by omega), xb_some]
  rw [hini, xb_some]
  have ng : xm_n g2 = xm_n h + 3 := by rw [j4.n]; show xm_n h5 + 1 = _; omega
  have hX : zX (fun a _ => xm_n h ≤ a) h g2 := hX5.tr ((zX.new (102, k)).tr (j4.x.mono (fun a k z => by omega)))
  refine ⟨_, rfl, ⟨by show xm_n h ≤ xm_n g2; omega, fun a ha => ?_⟩, ng, ?_, ?_⟩
  · obtain ⟨d1, d2, d3, d4⟩ := hX.2 a ha
    refine ⟨d1, fun j => ?_, fun j _ => ?_, d4⟩
    · exact (if_neg (fun z => by omega)).trans (d2 j)
    · refine Eq.trans ?_ (d3 j (by omega))
      show xm_i (xm_si g2 (xm_n h + 1) 1 0) a j = xm_i g2 a j
      exact xi_ne (by omega)
  · show xm_sz g2 ≤ _
    rw [j4.sz, xm_sz_new]
    have h2 : xm_ks (102, k) = k := rfl
    omega
  · rw [n5] at gk2 j5
    refine ⟨by show _ < xm_n g2; omega, by show _ < xm_n g2; omega, gka, ?_, xi_eq, ?_, fun j y hy => ?_⟩
    · rw [n5]
      exact zr_eq
    · rw [zWd_len]
      exact gk2
    · have hjk : j < k := by
        rcases Nat.lt_or_ge j k with z | z
        · exact z
        · rw [List.getElem?_eq_none (by rw [zWd_len]; exact z)] at hy
          cases hy
      rw [zWd_get hjk] at hy
      have : b (s + j) = y := Option.some.inj hy
      show xm_i (xm_si g2 (xm_n h + 1) 1 0) (xm_n h + 2) j = nI y
      rw [xi_ne (by omega), j5 j hjk, this]
end Let
