/-! write: the digits of a number, whole -/
section Gd
variable {N L q bo e cap m : Nat} {xs : zV} {h g : xm_H}
theorem zKon_si {k : Nat} {v : Int32} (hbo : 160 ≤ bo) (hK : zKon L xs h) : zKon L xs (xm_si h bo k v) := fun a ha => ⟨(hK a ha).1, fun j => ⟨(xi_ne (by omega)).trans ((hK a ha).2 j).1, ((hK a ha).2 j).2⟩⟩
theorem zc_getChars (hN : 1000 ≤ N) (hK : zKon L xs h) (hbo : 160 ≤ bo) (hk : xm_k h bo = (102, cap)) (hcap : cap ≤ 300) (he : e + (zDg q).length ≤ cap) (hq : q ≤ 9999) : ∃ v g, f_J6_getChars_ba4f3 N (nI q) (nI (e + (zDg q).length)) bo h = some (v, g) ∧ zF (fun a k => a = bo ∧ e ≤ k ∧ k < e + (zDg q).length) h g ∧ ∀ i x, (zDg q)[i]? = some x → xm_i g bo (e + i) = nI x := by
  obtain ⟨m, hm⟩ : ∃ m, N = m + 2 := ⟨N - 2, by omega⟩
  rw [zc_gc hq]
  have hN2 : ∀ c5, f_J6_getChars_ba4f3_22 N bo 0 (zKc bo) N (-nI q) c5 h = f_J6_getChars_ba4f3_22 N bo 0 (zKc bo) (m + 2) (-nI q) c5 h := fun c5 => congrArg (fun z => f_J6_getChars_ba4f3_22 N bo 0 (zKc bo) z (-nI q) c5 h) hm
  rw [hN2]
  unfold zDg at he ⊢
  by_cases h1 : q < 10
  · simp only [if_pos h1] at he ⊢
    refine ⟨_, _, (zc_ch0 (by omega)).trans (zc_fin1 hK hbo hk hcap he h1), zF.si ⟨rfl, by omega, by show e < e + 1; omega⟩, fun i x hx => ?_⟩
    match i, hx with
    | 0, hx =>
      have : 48 + q = x := by simpa using hx
      rw [← this]
      exact xi_eq
    | i + 1, hx => simp at hx
  · simp only [if_neg h1] at he ⊢
    by_cases h2 : q < 100
    · simp only [if_pos h2] at he ⊢
      refine ⟨_, _, (zc_ch0 h2).trans (zc_fin2 hK hbo hk hcap he (by omega) h2), (zF.si ⟨rfl, by omega, by show e + 1 < e + 2; omega⟩).st ⟨rfl, by omega, by show e < e + 2; omega⟩, fun i x hx => ?_⟩
      match i, hx with
      | 0, hx =>
        have : 48 + q / 10 = x := by simpa using hx
        rw [← this]
        exact xi_eq
      | 1, hx =>
        have : 48 + q % 10 = x := by simpa using hx
        rw [← this, xi_nk (by omega)]
        exact xi_eq
      | i + 2, hx => simp at hx
    · simp only [if_neg h2] at he ⊢
      by_cases h3 : q < 1000
      · simp only [if_pos h3] at he ⊢
        have he3 : e + 3 ≤ cap := he
        refine ⟨_, _, (zc_ch1 (e := e + 1) (m := m + 1) hK hbo hk hcap he3 (by omega) hq).trans ((zc_ch0 (by omega)).trans (zc_fin1 (zKon_si hbo (zKon_si hbo hK)) hbo hk hcap (by omega) (by omega))), ((zF.si ⟨rfl, by omega, by show e + 1 + 1 < e + 3; omega⟩).st ⟨rfl, by omega, by show e + 1 < e + 3; omega⟩).st ⟨rfl, by omega, by show e < e + 3; omega⟩, fun i x hx => ?_⟩
        match i, hx with
        | 0, hx =>
          have : 48 + q / 100 = x := by simpa using hx
          rw [← this]
          exact xi_eq
        | 1, hx =>
          have : 48 + q / 10 % 10 = x := by simpa using hx
          rw [← this, xi_nk (by omega), xi_eq, show q % 100 / 10 = q / 10 % 10 by omega]
        | 2, hx =>
          have : 48 + q % 10 = x := by simpa using hx
          rw [← this, xi_nk (by omega), xi_nk (by omega), xi_eq, show q % 100 % 10 = q % 10 by omega]
        | i + 3, hx => simp at hx
      · simp only [if_neg h3] at he ⊢
        have he4 : e + 4 ≤ cap := he
        refine ⟨_, _, (zc_ch1 (e := e + 2) (m := m + 1) hK hbo hk hcap he4 (by omega) hq).trans ((zc_ch0 (by omega)).trans (zc_fin2 (zKon_si hbo (zKon_si hbo hK)) hbo hk hcap (by omega) (by omega) (by omega))), (((zF.si ⟨rfl, by omega, by show e + 2 + 1 < e + 4; omega⟩).st ⟨rfl, by omega, by show e + 2 < e + 4; omega⟩).st ⟨rfl, by omega, by show e + 1 < e + 4; omega⟩).st ⟨rfl, by omega, by show e < e + 4; omega⟩, fun i x hx => ?_⟩
        match i, hx with
        | 0, hx =>
          have : 48 + q / 1000 = x := by simpa using hx
          rw [← this, ← show q / 100 / 10 = q / 1000 by omega]
          exact xi_eq
        | 1, hx =>
          have : 48 + q / 100 % 10 = x := by simpa using hx
          rw [← this, xi_nk (by omega), xi_eq]
        | 2, hx =>
          have : 48 + q / 10 % 10 = x := by simpa using hx
          rw [← this, xi_nk (by omega), xi_nk (by omega), xi_eq, show q % 100 / 10 = q / 10 % 10 by omega]
        | 3, hx =>
          have : 48 + q % 10 = x := by simpa using hx
          rw [← this, xi_nk (by omega), xi_nk (by omega), xi_nk (by omega), xi_eq, show q % 100 % 10 = q % 10 by omega]
        | i + 4, hx => simp at hx
end Gd
