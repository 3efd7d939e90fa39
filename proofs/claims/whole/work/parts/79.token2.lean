/-! load: the reference's tokens -/
def zFm (A M : Nat → Nat → Prop) (h h' : xm_H) : Prop := xm_n h' = xm_n h ∧ xm_sz h' = xm_sz h ∧ (∀ a, xm_k h' a = xm_k h a) ∧ (∀ a k, xm_r h' a k = xm_r h a k) ∧ (∀ a k, ¬ A a k → xm_i h' a k = xm_i h a k) ∧ ∀ a k, ¬ M a k → xm_l h' a k = xm_l h a k
section Fl
variable {A B M K : Nat → Nat → Prop} {h h1 h2 : xm_H} {a j : Nat}
theorem zFm.rf : zFm A M h h := ⟨rfl, rfl, fun _ => rfl, fun _ _ => rfl, fun _ _ _ => rfl, fun _ _ _ => rfl⟩
theorem zFm.tr (e1 : zFm A M h h1) (e2 : zFm A M h1 h2) : zFm A M h h2 := ⟨e2.1.trans e1.1, e2.2.1.trans e1.2.1, fun a => (e2.2.2.1 a).trans (e1.2.2.1 a), fun a k => (e2.2.2.2.1 a k).trans (e1.2.2.2.1 a k), fun a k n => (e2.2.2.2.2.1 a k n).trans (e1.2.2.2.2.1 a k n), fun a k n => (e2.2.2.2.2.2 a k n).trans (e1.2.2.2.2.2 a k n)⟩
theorem zFm.mono (e1 : zFm A M h h1) (hA : ∀ a k, A a k → B a k) (hM : ∀ a k, M a k → K a k) : zFm B K h h1 := ⟨e1.1, e1.2.1, e1.2.2.1, e1.2.2.2.1, fun a k n => e1.2.2.2.2.1 a k (fun z => n (hA a k z)), fun a k n => e1.2.2.2.2.2 a k (fun z => n (hM a k z))⟩
theorem zF.fm (e : zF A h h1) : zFm A M h h1 := ⟨e.n, e.sz, e.k, e.r, fun a k n => e.i n, fun a k _ => e.l a k⟩
theorem zFm.si {v : Int32} (e1 : zFm A M h h1) (hA : A a j) : zFm A M h (xm_si h1 a j v) := e1.tr (zF.si hA).fm
theorem zFm.sl {v : Int64} (e1 : zFm A M h h1) (hM : M a j) : zFm A M h (xm_sl h1 a j v) := e1.tr ⟨rfl, rfl, fun _ => rfl, fun _ _ => rfl, fun _ _ _ => rfl, fun b i n => if_neg (fun z => n (by rw [z.1, z.2]; exact hM))⟩
theorem zFm.n (e : zFm A M h h1) : xm_n h1 = xm_n h := e.1
theorem zFm.sz (e : zFm A M h h1) : xm_sz h1 = xm_sz h := e.2.1
theorem zFm.k (e : zFm A M h h1) (a : Nat) : xm_k h1 a = xm_k h a := e.2.2.1 a
theorem zFm.r (e : zFm A M h h1) (a k : Nat) : xm_r h1 a k = xm_r h a k := e.2.2.2.1 a k
theorem zFm.i (e : zFm A M h h1) {a k : Nat} (n : ¬ A a k) : xm_i h1 a k = xm_i h a k := e.2.2.2.2.1 a k n
theorem zFm.l (e : zFm A M h h1) {a k : Nat} (n : ¬ M a k) : xm_l h1 a k = xm_l h a k := e.2.2.2.2.2 a k n
theorem zFm.row (e1 : zFm A M h h1) {a : Nat} (n : ∀ k, ¬ A a k) : xm_i h1 a = xm_i h a := funext fun k => e1.i (n k)
theorem xl_si {a k : Nat} {v : Int32} : xm_l (xm_si h a k v) = xm_l h := rfl
end Fl
def zTA (a k : Nat) : Prop := a = 302 ∧ 10 ≤ k ∧ k ≤ 13
def zTM (a k : Nat) : Prop := a = 302 ∧ k = 16
section Tor
variable {N x p s e κ c i : Nat} {b : Nat → Nat} {h g : xm_H}
theorem zs_byte (hx : x ≤ 600) (hB : zBz b h) (e9 : xm_i h 302 9 = nI x) (hi : i ≤ 600) : f_X11_byteAt (nI i) h = some (if i < x then nI (b i) else -1, h) := by
  unfold f_X11_byteAt
  rw [e9]
  by_cases hl : i < x
  · rw [if_pos (nI_lt hl (by omega)), if_pos (zb_in (by omega) (by decide)), nI_clamp (by omega), (hB i (by omega)).1, if_pos hl]
  · rw [if_neg (nI_nlt (by omega) (by omega)), if_neg hl]
theorem zs_letter (hc : c ≤ 255) : f_X11_isLetter (nI c) h = some (if 97 ≤ c ∧ c ≤ 122 then 1 else 0, h) := by
  unfold f_X11_isLetter
  by_cases h1 : c < 97
  · rw [if_pos (show nI c < (97 : Int32) from nI_lt (b := 97) h1 (by omega)), if_neg (by omega)]
  · rw [if_neg (show ¬ nI c < (97 : Int32) from nI_nlt (b := 97) (by omega) (by omega))]
    by_cases h2 : 122 < c
    · rw [if_pos (show (122 : Int32) < nI c from nI_lt (a := 122) h2 (by omega)), if_neg (by omega)]
    · rw [if_neg (show ¬ (122 : Int32) < nI c from nI_nlt (a := 122) (by omega) (by omega)), if_pos (by omega)]
theorem zs_digit (hc : c ≤ 255) : f_X11_isDigit (nI c) h = some (if 48 ≤ c ∧ c ≤ 57 then 1 else 0, h) := by
  unfold f_X11_isDigit
  by_cases h1 : c < 48
  · rw [if_pos (show nI c < (48 : Int32) from nI_lt (b := 48) h1 (by omega)), if_neg (by omega)]
  · rw [if_neg (show ¬ nI c < (48 : Int32) from nI_nlt (b := 48) (by omega) (by omega))]
    by_cases h2 : 57 < c
    · rw [if_pos (show (57 : Int32) < nI c from nI_lt (a := 57) h2 (by omega)), if_neg (by omega)]
    · rw [if_neg (show ¬ (57 : Int32) < nI c from nI_nlt (a := 57) (by omega) (by omega)), if_pos (by omega)]
theorem zPk_s {k : Nat} : zPk (zWd b s (k + 1)) = 32 * zPk (zWd b s k) + (b (s + k) - 96) := by
  unfold zPk zWd
  rw [List.range_succ, List.map_append, List.foldl_append]
  rfl
theorem zs_word81 (hN : 1000 ≤ N) (hx : x ≤ 600) (hB : zBz b h) (e9 : xm_i h 302 9 = nI x) (e10 : xm_i h 302 10 = nI s) (e11 : xm_i h 302 11 = nI s) (el : xm_l h 302 16 = 0) (hR : zRun (zLr b) x s e) : ∃ g, (∀ K, f_X11_advance_81 N K N h = K g) ∧ zFm (fun a k => a = 302 ∧ k = 11) zTM h g ∧ xm_i g 302 11 = nI e ∧ (e - s ≤ 10 → xm_l g 302 16 = lN (zPk (zWd b s (e - s)))) := by
  obtain ⟨r1, r2, r3, r4⟩ := hR
  obtain ⟨m, g, ⟨i1, i2, i3⟩, hE⟩ := zlpO (N := N) (F := fun n t => fun K => f_X11_advance_81 N K n t) (I := fun i t => zFm (fun a k => a = 302 ∧ k = 11) zTM h t ∧ xm_i t 302 11 = nI (s + i) ∧ xm_l t 302 16 = lN (zPk (zWd b s (min i 10)))) (L := e - s) (s := h) (by omega) ⟨zFm.rf, e11, el⟩ (by
    rintro m i g hi ⟨i1, i2, i3⟩
    have hb := hB (s + i) (by omega)
    have hr := r3 (s + i) (by omega) (by omega)
    unfold zLr at hr
    have gB : zBz b g := fun j hj => by rw [i1.i (by omega)]; exact hB j hj
    have g9 : xm_i g 302 9 = nI x := by rw [i1.i (by omega)]; exact e9
    have g10 : xm_i g 302 10 = nI s := by rw [i1.i (by omega)]; exact e10
    by_cases h10 : i < 10
    · refine ⟨xm_si (xm_sl g 302 16 (lN (zPk (zWd b s (i + 1))))) 302 11 (nI (s + i + 1)), ⟨(i1.sl ⟨rfl, rfl⟩).si ⟨rfl, rfl⟩, xi_eq, ?_⟩, ?_⟩
      · rw [xl_si, xl_eq, show min (i + 1) 10 = i + 1 by omega]
      · funext K
        show f_X11_advance_81B N K (f_X11_advance_81 N K m) g = f_X11_advance_81 N K m _
        unfold f_X11_advance_81B
        rw [i2, zs_byte hx gB g9 (by omega), if_pos (by omega), xb_some, zs_letter hb.2, if_pos hr, xb_some, if_neg (by decide), i2, g10, pk_sub (by omega), show s + i - s = i by omega, if_pos (show nI i < (10 : Int32) from nI_lt (b := 10) h10 (by omega)), zs_byte hx gB g9 (by omega), if_pos (by omega), xb_some, i3]
        simp only [xl]
        rw [xi_sl, i2, nI_1, nI_l (by omega), show (32 : Int64) = lN 32 from rfl, lN_mul, lN_add, show (96 : Int64) = lN 96 from rfl, lN_sub (by omega), show min i 10 = i by omega, zPk_s, show 32 * zPk (zWd b s i) + b (s + i) - 96 = 32 * zPk (zWd b s i) + (b (s + i) - 96) by omega]
    · refine ⟨xm_si (xm_sl g 302 16 (xm_l g 302 16)) 302 11 (nI (s + i + 1)), ⟨(i1.sl ⟨rfl, rfl⟩).si ⟨rfl, rfl⟩, xi_eq, ?_⟩, ?_⟩
      · rw [xl_si, xl_eq, i3, show min i 10 = 10 by omega, show min (i + 1) 10 = 10 by omega]
      · funext K
        show f_X11_advance_81B N K (f_X11_advance_81 N K m) g = f_X11_advance_81 N K m _
        unfold f_X11_advance_81B
        rw [i2, zs_byte hx gB g9 (by omega), if_pos (by omega), xb_some, zs_letter hb.2, if_pos hr, xb_some, if_neg (by decide), i2, g10, pk_sub (by omega), show s + i - s = i by omega, if_neg (show ¬ nI i < (10 : Int32) from nI_nlt (b := 10) (by omega) (by omega))]
        simp only [xl]
        rw [xi_sl, i2, nI_1])
  rw [show s + (e - s) = e by omega] at i2
  refine ⟨g, fun K => ?_, i1, i2, fun h10 => by rw [i3, show min (e - s) 10 = e - s by omega]⟩
  have gB : zBz b g := fun j hj => by rw [i1.i (by omega)]; exact hB j hj
  have g9 : xm_i g 302 9 = nI x := by rw [i1.i (by omega)]; exact e9
  refine (congrFun hE K).trans ?_
  show f_X11_advance_81B N K (f_X11_advance_81 N K m) g = _
  unfold f_X11_advance_81B
  rw [i2, zs_byte hx gB g9 (by omega), xb_some]
  by_cases hl : e < x
  · have hr := r4 hl
    unfold zLr at hr
    rw [if_pos hl, zs_letter (hB e (by omega)).2, if_neg hr, xb_some, if_pos rfl]
  · rw [if_neg hl, show f_X11_isLetter (-1) g = some (0, g) from rfl, xb_some, if_pos rfl]
theorem zs_num193 (hN : 1000 ≤ N) (hx : x ≤ 600) (hB : zBz b h) (e9 : xm_i h 302 9 = nI x) (e10 : xm_i h 302 10 = nI s) (e11 : xm_i h 302 11 = nI s) (el : xm_i h 302 13 = 0) (hR : zRun (zDi b) x s e) : ∃ g, (∀ K, f_X11_advance_193 N K N h = K g) ∧ zF (fun a k => a = 302 ∧ (k = 11 ∨ k = 13)) h g ∧ xm_i g 302 11 = nI e ∧ (e - s ≤ 4 → xm_i g 302 13 = nI (zNb b s (e - s))) := by
  obtain ⟨r1, r2, r3, r4⟩ := hR
  obtain ⟨m, g, ⟨i1, i2, i3⟩, hE⟩ := zlpO (N := N) (F := fun n t => fun K => f_X11_advance_193 N K n t) (I := fun i t => zF (fun a k => a = 302 ∧ (k = 11 ∨ k = 13)) h t ∧ xm_i t 302 11 = nI (s + i) ∧ xm_i t 302 13 = nI (zNb b s (min i 4))) (L := e - s) (s := h) (by omega) ⟨zF.rf, e11, el⟩ (by
    rintro m i g hi ⟨i1, i2, i3⟩
    have hb := hB (s + i) (by omega)
    have hr := r3 (s + i) (by omega) (by omega)
    unfold zDi at hr
    have gB : zBz b g := fun j hj => by rw [i1.i (by omega)]; exact hB j hj
    have g9 : xm_i g 302 9 = nI x := by rw [i1.i (by omega)]; exact e9
    have g10 : xm_i g 302 10 = nI s := by rw [i1.i (by omega)]; exact e10
    by_cases h10 : i < 4
    · refine ⟨xm_si (xm_si g 302 13 (nI (zNb b s (i + 1)))) 302 11 (nI (s + i + 1)), ⟨(i1.st (by omega)).st (by omega), xi_eq, ?_⟩, ?_⟩
      · rw [xi_nk (by decide), xi_eq, show min (i + 1) 4 = i + 1 by omega]
      · funext K
        show f_X11_advance_193B N K (f_X11_advance_193 N K m) g = f_X11_advance_193 N K m _
        unfold f_X11_advance_193B
        rw [i2, zs_byte hx gB g9 (by omega), if_pos (by omega), xb_some, zs_digit hb.2, if_pos hr, xb_some, if_neg (by decide), i2, g10, pk_sub (by omega), show s + i - s = i by omega, if_pos (show nI i < (4 : Int32) from nI_lt (b := 4) h10 (by omega)), zs_byte hx gB g9 (by omega), if_pos (by omega), xb_some, i3]
        simp only [xl]
        rw [xi_nk (by decide), i2, nI_1, show (10 : Int32) = nI 10 from rfl, pk_mul, nI_add, show (48 : Int32) = nI 48 from rfl, pk_sub (by omega), show min i 4 = i by omega, show 10 * zNb b s i + b (s + i) - 48 = zNb b s (i + 1) by show _ = 10 * zNb b s i + (b (s + i) - 48); omega]
    · refine ⟨xm_si (xm_si g 302 13 (xm_i g 302 13)) 302 11 (nI (s + i + 1)), ⟨(i1.st (by omega)).st (by omega), xi_eq, ?_⟩, ?_⟩
      · rw [xi_nk (by decide), xi_eq, i3, show min i 4 = 4 by omega, show min (i + 1) 4 = 4 by omega]
      · funext K
        show f_X11_advance_193B N K (f_X11_advance_193 N K m) g = f_X11_advance_193 N K m _
        unfold f_X11_advance_193B
        rw [i2, zs_byte hx gB g9 (by omega), if_pos (by omega), xb_some, zs_digit hb.2, if_pos hr, xb_some, if_neg (by decide), i2, g10, pk_sub (by omega), show s + i - s = i by omega, if_neg (show ¬ nI i < (4 : Int32) from nI_nlt (b := 4) (by omega) (by omega))]
        simp only [xl]
        rw [xi_nk (by decide), i2, nI_1])
  rw [show s + (e - s) = e by omega] at i2
  refine ⟨g, fun K => ?_, i1, i2, fun h10 => by rw [i3, show min (e - s) 4 = e - s by omega]⟩
  have gB : zBz b g := fun j hj => by rw [i1.i (by omega)]; exact hB j hj
  have g9 : xm_i g 302 9 = nI x := by rw [i1.i (by omega)]; exact e9
  refine (congrFun hE K).trans ?_
  show f_X11_advance_193B N K (f_X11_advance_193 N K m) g = _
  unfold f_X11_advance_193B
  rw [i2, zs_byte hx gB g9 (by omega), xb_some]
  by_cases hl : e < x
  · have hr := r4 hl
    unfold zDi at hr
    rw [if_pos hl, zs_digit (hB e (by omega)).2, if_neg hr, xb_some, if_pos rfl]
  · rw [if_neg hl, show f_X11_isDigit (-1) g = some (0, g) from rfl, xb_some, if_pos rfl]
theorem zs_advance (hN : 1000 ≤ N) (hx : x ≤ 600) (hB : zBz b h) (e9 : xm_i h 302 9 = nI x) (e11 : xm_i h 302 11 = nI p) (hT : zTk b x p s e κ) : ∃ g, f_X11_advance N h = some (1, g) ∧ zFm zTA zTM h g ∧ zTr b x s e κ g := by
  obtain ⟨⟨r1, r2, r3, r4⟩, hT⟩ := hT
  unfold f_X11_advance
  obtain ⟨m, g0, ⟨i1, i2⟩, hE⟩ := zlpO (N := N) (F := fun n s => fun K => f_X11_advance_0 N K n s) (I := fun i g => zF (fun a k => a = 302 ∧ k = 11) h g ∧ xm_i g 302 11 = nI (p + i)) (L := s - p) (s := h) (by omega) ⟨zF.rf, e11⟩ (by
    rintro m i g hi ⟨i1, i2⟩
    refine ⟨xm_si g 302 11 (nI (p + i + 1)), ⟨i1.st ⟨rfl, rfl⟩, xi_eq⟩, ?_⟩
    funext K
    show f_X11_advance_0B N K (f_X11_advance_0 N K m) g = f_X11_advance_0 N K m (xm_si g 302 11 (nI (p + i + 1)))
    unfold f_X11_advance_0B
    have gB : zBz b g := fun j hj => by rw [i1.i (by omega)]; exact hB j hj
    have g9 : xm_i g 302 9 = nI x := by rw [i1.i (by omega)]; exact e9
    rw [i2, zs_byte hx gB g9 (by omega), if_pos (by omega), xb_some]
    rcases r3 (p + i) (by omega) (by omega) with hs | hs
    · rw [hs, if_pos (show nI 32 = (32 : Int32) from rfl)]
      simp only [xl]
      rw [i2, nI_1]
    · rw [hs, if_neg (show ¬ nI 10 = (32 : Int32) by decide), i2, zs_byte hx gB g9 (by omega), if_pos (by omega), xb_some, hs, if_pos (show nI 10 = (10 : Int32) from rfl)]
      simp only [xl]
      rw [i2, nI_1])
  rw [show p + (s - p) = s by omega] at i2
  have q9 : xm_i g0 302 9 = nI x := by rw [i1.i (by omega)]; exact e9
  have qB : zBz b g0 := fun i hi => by rw [i1.i (by omega)]; exact hB i hi
  have hE2 : ∀ K, f_X11_advance_0 N K N h = K g0 := fun K => by
    refine (congrFun hE K).trans ?_
    show f_X11_advance_0B N K (f_X11_advance_0 N K m) g0 = _
    unfold f_X11_advance_0B
    rw [i2, zs_byte hx qB q9 (by omega), xb_some, i2, zs_byte hx qB q9 (by omega), xb_some]
    by_cases hl : s < x
    · have hb := qB s (by omega)
      have hn := r4 hl
      unfold zSp at hn
      rw [if_pos hl, if_neg (show ¬ nI (b s) = (32 : Int32) from fun z => hn (Or.inl ((nI_eq (b := 32) (by omega) (by omega)).mp z))), if_neg (show ¬ nI (b s) = (10 : Int32) from fun z => hn (Or.inr ((nI_eq (b := 10) (by omega) (by omega)).mp z)))]
    · rw [if_neg hl, if_neg (by decide), if_neg (by decide)]
  rw [hE2]
  simp only [xl]
  rw [i2]
  have F0 : zFm zTA zTM h (xm_sl (xm_si g0 302 10 (nI s)) 302 16 0) := ((zF.fm (i1.mono (fun a k z => by unfold zTA; omega))).si (by unfold zTA; omega)).sl ⟨rfl, rfl⟩
  have k9 : xm_i (xm_sl (xm_si g0 302 10 (nI s)) 302 16 0) 302 9 = nI x := by rw [xi_sl, xi_nk (by decide)]; exact q9
  have k10 : xm_i (xm_sl (xm_si g0 302 10 (nI s)) 302 16 0) 302 10 = nI s := by rw [xi_sl, xi_eq]
  have k11 : xm_i (xm_sl (xm_si g0 302 10 (nI s)) 302 16 0) 302 11 = nI s := by rw [xi_sl, xi_nk (by decide)]; exact i2
  have kB : zBz b (xm_sl (xm_si g0 302 10 (nI s)) 302 16 0) := fun i hi => by rw [xi_sl, xi_ne (by decide)]; exact qB i hi
  have kl : xm_l (xm_sl (xm_si g0 302 10 (nI s)) 302 16 0) 302 16 = 0 := xl_eq
  generalize xm_sl (xm_si g0 302 10 (nI s)) 302 16 0 = g4 at F0 k9 k10 k11 kB kl
  rw [k11, zs_byte hx kB k9 (by omega), xb_some]
  rcases hT with ⟨t1, t2, t3⟩ | ⟨t1, t2, t3, t4⟩ | ⟨t1, t2, t3, t4⟩ | ⟨t1, t2, t3, t4, t5⟩
  · rw [if_neg (show ¬ s < x by omega), if_pos rfl]
    subst t3
    subst t2
    exact ⟨_, rfl, F0.si (by unfold zTA; omega), fun i hi => by rw [xi_ne (by decide)]; exact kB i hi, by rw [xi_nk (by decide)]; exact k9, by rw [xi_nk (by decide)]; exact k10, by rw [xi_nk (by decide)]; exact k11, xi_eq, fun z => by omega, fun z => by omega⟩
  · have hp := zRun_pos t1 t2 t3
    have he2 := t3.2.1
    have hb := kB s (by omega)
    have hL : 97 ≤ b s ∧ b s ≤ 122 := t2
    obtain ⟨g, v1, v2, v3, v4⟩ := zs_word81 (N := N) hN hx kB k9 k10 k11 kl t3
    have F1 : zFm zTA zTM h g := F0.tr (v2.mono (fun a k z => by unfold zTA; omega) (fun a k z => z))
    have w9 : xm_i g 302 9 = nI x := by rw [v2.i (by omega)]; exact k9
    have w10 : xm_i g 302 10 = nI s := by rw [v2.i (by omega)]; exact k10
    have wB : zBz b g := fun i hi => by rw [v2.i (by omega)]; exact kB i hi
    rw [if_pos t1, if_neg (show ¬ nI (b s) = (-1 : Int32) from fun z => absurd (congrArg Int32.toInt z) (by rw [nI_toInt (by omega)]; show ¬ ((b s : Int) = -1); omega)), zs_letter hb.2, if_pos hL, xb_some, if_neg (by decide), v1, v3, w10, pk_sub (by omega)]
    by_cases h10 : 10 < e - s
    · rw [if_pos (show (10 : Int32) < nI (e - s) from nI_lt (a := 10) h10 (by omega))]
      rw [if_pos h10] at t4
      subst t4
      exact ⟨_, rfl, F1.si (by unfold zTA; omega), fun i hi => by rw [xi_ne (by decide)]; exact wB i hi, by rw [xi_nk (by decide)]; exact w9, by rw [xi_nk (by decide)]; exact w10, by rw [xi_nk (by decide)]; exact v3, xi_eq, fun z => by omega, fun z => by omega⟩
    · rw [if_neg (show ¬ (10 : Int32) < nI (e - s) from nI_nlt (a := 10) (by omega) (by omega))]
      rw [if_neg h10] at t4
      subst t4
      exact ⟨_, rfl, F1.si (by unfold zTA; omega), fun i hi => by rw [xi_ne (by decide)]; exact wB i hi, by rw [xi_nk (by decide)]; exact w9, by rw [xi_nk (by decide)]; exact w10, by rw [xi_nk (by decide)]; exact v3, xi_eq, fun z => by omega, fun _ => v4 (by omega)⟩
  · have hp := zRun_pos t1 t2 t3
    have he2 := t3.2.1
    have hb := kB s (by omega)
    have hL : 48 ≤ b s ∧ b s ≤ 57 := t2
    obtain ⟨g, v1, v2, v3, v4⟩ := zs_num193 (N := N) (h := xm_si g4 302 13 0) hN hx (fun i hi => by rw [xi_ne (by decide)]; exact kB i hi) (by rw [xi_nk (by decide)]; exact k9) (by rw [xi_nk (by decide)]; exact k10) (by rw [xi_nk (by decide)]; exact k11) xi_eq t3
    have F2 : zF (fun a k => a = 302 ∧ (k = 11 ∨ k = 13)) g4 g := (zF.si (by omega)).tr v2
    have F1 : zFm zTA zTM h g := F0.tr (F2.mono (fun a k z => by unfold zTA; omega)).fm
    have w9 : xm_i g 302 9 = nI x := by rw [F2.i (by omega)]; exact k9
    have w10 : xm_i g 302 10 = nI s := by rw [F2.i (by omega)]; exact k10
    have wB : zBz b g := fun i hi => by rw [F2.i (by omega)]; exact kB i hi
    rw [if_pos t1, if_neg (show ¬ nI (b s) = (-1 : Int32) from fun z => absurd (congrArg Int32.toInt z) (by rw [nI_toInt (by omega)]; show ¬ ((b s : Int) = -1); omega)), zs_letter hb.2, if_neg (by omega), xb_some, if_pos rfl, zs_digit hb.2, if_pos hL, xb_some, if_neg (by decide), v1, v3, w10, pk_sub (by omega)]
    by_cases h10 : 4 < e - s
    · rw [if_pos (show (4 : Int32) < nI (e - s) from nI_lt (a := 4) h10 (by omega))]
      rw [if_pos h10] at t4
      subst t4
      exact ⟨_, rfl, F1.si (by unfold zTA; omega), fun i hi => by rw [xi_ne (by decide)]; exact wB i hi, by rw [xi_nk (by decide)]; exact w9, by rw [xi_nk (by decide)]; exact w10, by rw [xi_nk (by decide)]; exact v3, xi_eq, fun z => by omega, fun z => by omega⟩
    · rw [if_neg (show ¬ (4 : Int32) < nI (e - s) from nI_nlt (a := 4) (by omega) (by omega))]
      rw [if_neg h10] at t4
      subst t4
      exact ⟨_, rfl, F1.si (by unfold zTA; omega), fun i hi => by rw [xi_ne (by decide)]; exact wB i hi, by rw [xi_nk (by decide)]; exact w9, by rw [xi_nk (by decide)]; exact w10, by rw [xi_nk (by decide)]; exact v3, xi_eq, fun _ => by rw [xi_nk (by decide)]; exact v4 (by omega), fun z => by omega⟩
  · have hb := kB s (by omega)
    unfold zLr at t2
    unfold zDi at t3
    rw [if_pos t1, if_neg (show ¬ nI (b s) = (-1 : Int32) from fun z => absurd (congrArg Int32.toInt z) (by rw [nI_toInt (by omega)]; show ¬ ((b s : Int) = -1); omega)), zs_letter hb.2, if_neg t2, xb_some, if_pos rfl, zs_digit hb.2, if_neg t3, xb_some, if_pos rfl, k11, nI_1]
    by_cases h59 : b s = 59
    · rw [h59, if_pos (show nI 59 = (59 : Int32) from rfl)]
      rw [if_pos h59] at t5
      subst t5
      subst t4
      exact ⟨_, rfl, (F0.si (by unfold zTA; omega)).si (by unfold zTA; omega), fun i hi => by rw [xi_ne (by decide), xi_ne (by decide)]; exact kB i hi, by rw [xi_nk (by decide), xi_nk (by decide)]; exact k9, by rw [xi_nk (by decide), xi_nk (by decide)]; exact k10, by rw [xi_nk (by decide), xi_eq], xi_eq, fun z => by omega, fun z => by omega⟩
    · rw [if_neg (show ¬ nI (b s) = (59 : Int32) from fun z => h59 ((nI_eq (b := 59) (by omega) (by omega)).mp z))]
      rw [if_neg h59] at t5
      subst t5
      subst t4
      exact ⟨_, rfl, (F0.si (by unfold zTA; omega)).si (by unfold zTA; omega), fun i hi => by rw [xi_ne (by decide), xi_ne (by decide)]; exact kB i hi, by rw [xi_nk (by decide), xi_nk (by decide)]; exact k9, by rw [xi_nk (by decide), xi_nk (by decide)]; exact k10, by rw [xi_nk (by decide), xi_eq], xi_eq, fun z => by omega, fun z => by omega⟩
end Tor
