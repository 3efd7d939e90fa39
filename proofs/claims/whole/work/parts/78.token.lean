/-! load: tokens; the class's -/
def zRun (P : Nat → Prop) (x p e : Nat) : Prop := p ≤ e ∧ e ≤ x ∧ (∀ i, p ≤ i → i < e → P i) ∧ (e < x → ¬ P e)
theorem zRun_ex {P : Nat → Prop} {x : Nat} : ∀ (d p : Nat), p + d = x → ∃ e, zRun P x p e := by
  intro d
  induction d with
  | zero => intro p h; exact ⟨p, by omega, by omega, fun i a b => by omega, fun z => by omega⟩
  | succ d ih =>
    intro p h
    by_cases hp : P p
    · obtain ⟨e, e1, e2, e3, e4⟩ := ih (p + 1) (by omega)
      refine ⟨e, by omega, e2, fun i a b => ?_, e4⟩
      by_cases hi : i = p
      · rw [hi]
        exact hp
      · exact e3 i (by omega) b
    · exact ⟨p, by omega, by omega, fun i a b => by omega, fun _ => hp⟩
def zSp (b : Nat → Nat) (i : Nat) : Prop := b i = 32 ∨ b i = 10
def zLr (b : Nat → Nat) (i : Nat) : Prop := 97 ≤ b i ∧ b i ≤ 122
def zDi (b : Nat → Nat) (i : Nat) : Prop := 48 ≤ b i ∧ b i ≤ 57
/-- behind place p the next token goes from s to e; κ: 0 end, 1 word, 2 number, 3 semicolon, 4 none of these -/
def zTk (b : Nat → Nat) (x p s e κ : Nat) : Prop := zRun (zSp b) x p s ∧ ((s = x ∧ e = s ∧ κ = 0) ∨ (s < x ∧ zLr b s ∧ zRun (zLr b) x s e ∧ κ = if 10 < e - s then 4 else 1) ∨ (s < x ∧ zDi b s ∧ zRun (zDi b) x s e ∧ κ = if 4 < e - s then 4 else 2) ∨ (s < x ∧ ¬ zLr b s ∧ ¬ zDi b s ∧ e = s + 1 ∧ κ = if b s = 59 then 3 else 4))
def zNb (b : Nat → Nat) (s : Nat) : Nat → Nat
  | 0 => 0
  | k + 1 => 10 * zNb b s k + (b (s + k) - 48)
def zWd (b : Nat → Nat) (s k : Nat) : List Nat := (List.range k).map fun i => b (s + i)
def zBy (b : Nat → Nat) (h : xm_H) : Prop := ∀ i, i < 600 → xm_i h 163 i = nI (b i) ∧ b i ≤ 255
def zBz (b : Nat → Nat) (h : xm_H) : Prop := ∀ i, i < 600 → xm_i h 306 i = nI (b i) ∧ b i ≤ 255
def zRr (κ : Nat) : Nat := if κ = 1 then 2 else if κ = 2 then 3 else if κ = 3 then 4 else if κ = 4 then 1 else 0
def zTc (b : Nat → Nat) (x s e κ : Nat) (h : xm_H) : Prop := zBy b h ∧ xm_i h 162 2 = nI x ∧ xm_i h 162 3 = nI e ∧ xm_i h 162 4 = nI κ ∧ xm_i h 162 5 = nI s ∧ (κ = 2 → xm_i h 162 6 = nI (zNb b s (e - s)))
def zTr (b : Nat → Nat) (x s e κ : Nat) (h : xm_H) : Prop := zBz b h ∧ xm_i h 302 9 = nI x ∧ xm_i h 302 10 = nI s ∧ xm_i h 302 11 = nI e ∧ xm_i h 302 12 = nI (zRr κ) ∧ (κ = 2 → xm_i h 302 13 = nI (zNb b s (e - s))) ∧ (κ = 1 → xm_l h 302 16 = lN (zPk (zWd b s (e - s))))
/-- what holds of every token -/
def zTf (b : Nat → Nat) (x s e κ : Nat) : Prop := s ≤ e ∧ e ≤ x ∧ x ≤ 600 ∧ κ ≤ 4 ∧ (κ = 0 ↔ s = x) ∧ (s < x → s < e) ∧ (κ = 1 → zLet (zWd b s (e - s))) ∧ (κ = 2 → zNb b s (e - s) ≤ 9999)
section Tok
variable {N x p s e κ : Nat} {b : Nat → Nat} {h g : xm_H}
theorem zTk_ex (hp : p ≤ x) : ∃ s e κ, zTk b x p s e κ := by
  obtain ⟨s, hs⟩ := zRun_ex (P := zSp b) (x := x) (x - p) p (by omega)
  have s2 := hs.2.1
  by_cases h0 : s = x
  · exact ⟨s, s, 0, hs, Or.inl ⟨h0, rfl, rfl⟩⟩
  by_cases h1 : zLr b s
  · obtain ⟨e, he⟩ := zRun_ex (P := zLr b) (x := x) (x - s) s (by omega)
    exact ⟨s, e, _, hs, Or.inr (Or.inl ⟨by omega, h1, he, rfl⟩)⟩
  by_cases h2 : zDi b s
  · obtain ⟨e, he⟩ := zRun_ex (P := zDi b) (x := x) (x - s) s (by omega)
    exact ⟨s, e, _, hs, Or.inr (Or.inr (Or.inl ⟨by omega, h2, he, rfl⟩))⟩
  · exact ⟨s, s + 1, _, hs, Or.inr (Or.inr (Or.inr ⟨by omega, h1, h2, rfl, rfl⟩))⟩
theorem zRun_pos {P : Nat → Prop} (hl : s < x) (hp : P s) (hR : zRun P x s e) : s < e := by
  obtain ⟨r1, r2, r3, r4⟩ := hR
  rcases Nat.lt_or_ge s e with z | z
  · exact z
  · have : e = s := by omega
    subst this
    exact absurd hp (r4 hl)
theorem zNb_lt {k : Nat} (hd : ∀ i, s ≤ i → i < s + k → zDi b i) : zNb b s k < 10 ^ k := by
  induction k with
  | zero => exact Nat.one_pos
  | succ k ih =>
    have h1 := ih (fun i a c => hd i a (by omega))
    have h2 := hd (s + k) (by omega) (by omega)
    unfold zDi at h2
    unfold zNb
    rw [Nat.pow_succ]
    omega
theorem zWd_len {k : Nat} : (zWd b s k).length = k := by
  unfold zWd
  rw [List.length_map, List.length_range]
theorem zWd_get {k i : Nat} (hi : i < k) : (zWd b s k)[i]? = some (b (s + i)) := by
  unfold zWd
  rw [List.getElem?_map, List.getElem?_range hi]
  rfl
theorem zTk_f (hx : x ≤ 600) (hT : zTk b x p s e κ) : zTf b x s e κ ∧ p ≤ s := by
  obtain ⟨⟨r1, r2, r3, r4⟩, hT⟩ := hT
  refine ⟨?_, r1⟩
  rcases hT with ⟨t1, t2, t3⟩ | ⟨t1, t2, t3, t4⟩ | ⟨t1, t2, t3, t4⟩ | ⟨t1, t2, t3, t4, t5⟩
  · exact ⟨by omega, by omega, hx, by omega, by omega, by omega, by omega, by omega⟩
  · have hp := zRun_pos t1 t2 t3
    obtain ⟨u1, u2, u3, u4⟩ := t3
    split at t4
    · exact ⟨by omega, by omega, hx, by omega, by omega, by omega, by omega, by omega⟩
    · refine ⟨by omega, by omega, hx, by omega, by omega, by omega, fun _ => ⟨by rw [zWd_len]; omega, by rw [zWd_len]; omega, fun y hy => ?_⟩, by omega⟩
      unfold zWd at hy
      obtain ⟨i, i1, i2⟩ := List.mem_map.mp hy
      have := u3 (s + i) (by omega) (by have := List.mem_range.mp i1; omega)
      rw [← i2]
      exact this
  · have hp := zRun_pos t1 t2 t3
    obtain ⟨u1, u2, u3, u4⟩ := t3
    split at t4
    · exact ⟨by omega, by omega, hx, by omega, by omega, by omega, by omega, by omega⟩
    · refine ⟨by omega, by omega, hx, by omega, by omega, by omega, by omega, fun _ => ?_⟩
      have := zNb_lt (b := b) (s := s) (k := e - s) (fun i a c => u3 i a (by omega))
      have h2 : 10 ^ (e - s) ≤ 10 ^ 4 := Nat.pow_le_pow_right (by omega) (by omega)
      omega
  · split at t5
    · exact ⟨by omega, by omega, hx, by omega, by omega, by omega, by omega, by omega⟩
    · exact ⟨by omega, by omega, hx, by omega, by omega, by omega, by omega, by omega⟩
theorem zc_run {lo hi : Nat} {P : Nat → Prop} (hN : 1000 ≤ N) (hx : x ≤ 600) (hB : zBy b h) (hlo : lo ≤ 255) (hhi : hi ≤ 255) (hP : ∀ i, P i ↔ lo ≤ b i ∧ b i ≤ hi) (e2 : xm_i h 162 2 = nI x) (e5 : xm_i h 162 5 = nI s) (hR : zRun P x s e) : f_X9_runEnd N (nI lo) (nI hi) h = some (nI e, h) := by
  obtain ⟨r1, r2, r3, r4⟩ := hR
  unfold f_X9_runEnd
  rw [e5]
  refine zlp0 (N := N) (F := fun n s => f_X9_runEnd_5 N (nI lo) (nI hi) n s.1 s.2) (I := fun i t => t = (nI (s + i), h)) (L := e - s) (s := (nI s, h)) (by omega) rfl ?_ ?_
  · intro m i t hi ht
    subst ht
    refine ⟨(nI (s + (i + 1)), h), rfl, ?_⟩
    show f_X9_runEnd_5B N (nI lo) _ (f_X9_runEnd_5 N (nI lo) _ m) (nI (s + i)) h = f_X9_runEnd_5 N (nI lo) _ m (nI (s + i + 1)) h
    unfold f_X9_runEnd_5B
    have hp := (hP _).mp (r3 (s + i) (by omega) (by omega))
    have hb := hB (s + i) (by omega)
    rw [e2, if_pos (nI_lt (by omega) (by omega)), if_pos (zb_in (by omega) (by decide)), nI_clamp (by omega), hb.1, if_neg (nI_nlt hp.1 (by omega)), if_neg (nI_nlt hp.2 (by omega)), nI_1]
  · intro m t ht
    subst ht
    show f_X9_runEnd_5B N (nI lo) (nI hi) (f_X9_runEnd_5 N (nI lo) (nI hi) m) (nI (s + (e - s))) h = _
    rw [show s + (e - s) = e by omega]
    unfold f_X9_runEnd_5B
    rw [e2]
    by_cases hl : e < x
    · have hb := hB e (by omega)
      have hp : ¬ (lo ≤ b e ∧ b e ≤ hi) := fun z => r4 hl ((hP e).mpr z)
      rw [if_pos (nI_lt hl (by omega)), if_pos (zb_in (by omega) (by decide)), nI_clamp (by omega), hb.1]
      by_cases h1 : b e < lo
      · rw [if_pos (nI_lt h1 (by omega))]
      · rw [if_neg (nI_nlt (by omega) (by omega)), if_pos (nI_lt (by omega) (by omega))]
    · rw [if_neg (nI_nlt (by omega) (by omega))]
theorem zc_eval (hN : 1000 ≤ N) (hB : zBy b h) (he : e ≤ 600) (hse : s ≤ e) (hd : ∀ i, s ≤ i → i < e → zDi b i) (e3 : xm_i h 162 3 = nI e) (e5 : xm_i h 162 5 = nI s) : ∃ g, f_X9_evaluate N h = some ((), g) ∧ zF (fun a k => a = 162 ∧ k = 6) h g ∧ xm_i g 162 6 = nI (zNb b s (e - s)) := by
  unfold f_X9_evaluate
  simp only [xl]
  rw [xi_nk (by decide), e5]
  obtain ⟨m, ⟨c, g⟩, ⟨i1, i2, i3⟩, hE⟩ := zlpO (N := N) (F := fun n s => f_X9_evaluate_10 N n s.1 s.2) (I := fun i t => t.1 = nI (s + i) ∧ zF (fun a k => a = 162 ∧ k = 6) h t.2 ∧ xm_i t.2 162 6 = nI (zNb b s i)) (L := e - s) (s := (nI s, xm_si h 162 6 0)) (by omega) ⟨rfl, zF.si ⟨rfl, rfl⟩, xi_eq⟩ (by
    rintro m i ⟨c, g⟩ hi ⟨i1, i2, i3⟩
    dsimp only at i1 i2 i3
    subst i1
    have hb := hB (s + i) (by omega)
    have hd2 := hd (s + i) (by omega) (by omega)
    unfold zDi at hd2
    refine ⟨(nI (s + (i + 1)), xm_si g 162 6 (nI (zNb b s (i + 1)))), ⟨rfl, i2.st ⟨rfl, rfl⟩, xi_eq⟩, ?_⟩
    show f_X9_evaluate_10B N (f_X9_evaluate_10 N m) (nI (s + i)) g = f_X9_evaluate_10 N m (nI (s + i + 1)) (xm_si g 162 6 (nI (10 * zNb b s i + (b (s + i) - 48))))
    unfold f_X9_evaluate_10B
    rw [i2.i (by omega), e3, if_pos (nI_lt (by omega) (by omega)), if_pos (zb_in (by omega) (by decide)), nI_clamp (by omega), i3, i2.i (a := 163) (by omega), hb.1, show (10 : Int32) = nI 10 from rfl, pk_mul, show (48 : Int32) = nI 48 from rfl, pk_sub (by omega), nI_add, Nat.mul_comm, nI_1]
    rfl)
  dsimp only at i1 i2 i3
  subst i1
  refine ⟨g, hE.trans ?_, i2, i3⟩
  show f_X9_evaluate_10B N (f_X9_evaluate_10 N m) (nI (s + (e - s))) g = _
  unfold f_X9_evaluate_10B
  rw [i2.i (by omega), e3, if_neg (nI_nlt (by omega) (by omega))]
theorem zc_advance (hN : 1000 ≤ N) (hx : x ≤ 600) (hB : zBy b h) (e2 : xm_i h 162 2 = nI x) (e3 : xm_i h 162 3 = nI p) (hT : zTk b x p s e κ) : ∃ g, f_X9_advance N h = some ((), g) ∧ zF (fun a k => a = 162 ∧ 3 ≤ k) h g ∧ zTc b x s e κ g := by
  obtain ⟨⟨r1, r2, r3, r4⟩, hT⟩ := hT
  unfold f_X9_advance
  simp only [xl]
  rw [e3]
  obtain ⟨m, g0, ⟨i1, i2⟩, hE⟩ := zlpO (N := N) (F := fun n s => fun K => f_X9_advance_8 N K n s) (I := fun i g => zF (fun a k => a = 162 ∧ k = 5) h g ∧ xm_i g 162 5 = nI (p + i)) (L := s - p) (s := xm_si h 162 5 (nI p)) (by omega) ⟨zF.si ⟨rfl, rfl⟩, xi_eq⟩ (by
    rintro m i g hi ⟨i1, i2⟩
    refine ⟨xm_si g 162 5 (nI (p + i + 1)), ⟨i1.st ⟨rfl, rfl⟩, xi_eq⟩, ?_⟩
    funext K
    show f_X9_advance_8B N K (f_X9_advance_8 N K m) g = f_X9_advance_8 N K m (xm_si g 162 5 (nI (p + i + 1)))
    unfold f_X9_advance_8B
    have hb := hB (p + i) (by omega)
    rw [i2, i1.i (by omega), e2, if_pos (nI_lt (by omega) (by omega)), if_pos (zb_in (by omega) (by decide)), nI_clamp (by omega), i1.i (a := 163) (by omega), hb.1, nI_1]
    rcases r3 (p + i) (by omega) (by omega) with hs | hs
    · rw [hs, if_pos (show nI 32 = (32 : Int32) from rfl)]
      rfl
    · rw [hs, if_neg (show ¬ nI 10 = (32 : Int32) by decide), if_pos (show nI 10 = (10 : Int32) from rfl)]
      rfl)
  rw [show p + (s - p) = s by omega] at i2
  have q2 : xm_i g0 162 2 = nI x := by rw [i1.i (by omega)]; exact e2
  have qB : zBy b g0 := fun i hi => by rw [i1.i (by omega)]; exact hB i hi
  have hE2 : ∀ K, f_X9_advance_8 N K N (xm_si h 162 5 (nI p)) = K g0 := fun K => by
    refine (congrFun hE K).trans ?_
    show f_X9_advance_8B N K (f_X9_advance_8 N K m) g0 = _
    unfold f_X9_advance_8B
    rw [i2, q2]
    by_cases hl : s < x
    · have hb := qB s (by omega)
      have hn := r4 hl
      unfold zSp at hn
      rw [if_pos (nI_lt hl (by omega)), if_pos (zb_in (by omega) (by decide)), nI_clamp (by omega), hb.1, if_neg (show ¬ nI (b s) = (32 : Int32) from fun z => hn (Or.inl ((nI_eq (b := 32) (by omega) (by omega)).mp z))), if_neg (show ¬ nI (b s) = (10 : Int32) from fun z => hn (Or.inr ((nI_eq (b := 10) (by omega) (by omega)).mp z)))]
    · rw [if_neg (nI_nlt (by omega) (by omega))]
  rw [hE2]
  have F0 : zF (fun a k => a = 162 ∧ 3 ≤ k) h g0 := i1.mono (fun a k z => by omega)
  have fin : ∀ (v w : Int32), zF (fun a k => a = 162 ∧ 3 ≤ k) h (xm_si (xm_si g0 162 4 v) 162 3 w) ∧ zBy b (xm_si (xm_si g0 162 4 v) 162 3 w) ∧ xm_i (xm_si (xm_si g0 162 4 v) 162 3 w) 162 2 = nI x ∧ xm_i (xm_si (xm_si g0 162 4 v) 162 3 w) 162 3 = w ∧ xm_i (xm_si (xm_si g0 162 4 v) 162 3 w) 162 4 = v ∧ xm_i (xm_si (xm_si g0 162 4 v) 162 3 w) 162 5 = nI s := fun v w => ⟨(F0.st (by omega)).st (by omega), fun i hi => by rw [xi_ne (by decide), xi_ne (by decide)]; exact qB i hi, by rw [xi_nk (by decide), xi_nk (by decide)]; exact q2, xi_eq, by rw [xi_nk (by decide), xi_eq], by rw [xi_nk (by decide), xi_nk (by decide)]; exact i2⟩
  have k5 : ∀ v, xm_i (xm_si g0 162 4 v) 162 5 = nI s := fun v => by rw [xi_nk (by decide)]; exact i2
  have rw1 : ∀ e, zRun (zLr b) x s e → f_X9_runEnd N (97 : Int32) (122 : Int32) g0 = some (nI e, g0) := fun e hr => zc_run (lo := 97) (hi := 122) hN hx qB (by omega) (by omega) (fun i => Iff.rfl) q2 i2 hr
  have rw2 : ∀ e, zRun (zDi b) x s e → f_X9_runEnd N (48 : Int32) (57 : Int32) g0 = some (nI e, g0) := fun e hr => zc_run (lo := 48) (hi := 57) hN hx qB (by omega) (by omega) (fun i => Iff.rfl) q2 i2 hr
  have none : ∀ P : Nat → Prop, (s < x → ¬ P s) → zRun P x s s := fun P hP => ⟨Nat.le_refl _, r2, fun i a c => by omega, hP⟩
  rcases hT with ⟨t1, t2, t3⟩ | ⟨t1, t2, t3, t4⟩ | ⟨t1, t2, t3, t4⟩ | ⟨t1, t2, t3, t4, t5⟩
  · rw [rw1 s (none _ (fun z => by omega)), xb_some, rw2 s (none _ (fun z => by omega)), xb_some, i2, q2, if_neg (nI_nlt (by omega) (by omega)), k5]
    obtain ⟨f1, f2, f3, f4, f5, f6⟩ := fin 0 (nI s)
    rw [f5, if_neg (by decide)]
    subst t3
    subst t2
    exact ⟨_, rfl, f1, f2, f3, f4, f5, f6, fun z => by omega⟩
  · have hp := zRun_pos t1 t2 t3
    have hnd : ¬ zDi b s := by unfold zLr at t2; unfold zDi; omega
    have he2 := t3.2.1
    rw [rw1 e t3, xb_some, rw2 s (none _ (fun _ => hnd)), xb_some, i2, q2, if_pos (nI_lt t1 (by omega)), if_pos (nI_lt hp (by omega)), pk_sub (by omega)]
    by_cases h10 : 10 < e - s
    · rw [if_pos (show (10 : Int32) < nI (e - s) from nI_lt (a := 10) h10 (by omega))]
      rw [if_pos h10] at t4
      obtain ⟨f1, f2, f3, f4, f5, f6⟩ := fin 4 (nI e)
      rw [f5, if_neg (by decide)]
      subst t4
      exact ⟨_, rfl, f1, f2, f3, f4, f5, f6, fun z => by omega⟩
    · rw [if_neg (show ¬ (10 : Int32) < nI (e - s) from nI_nlt (a := 10) (by omega) (by omega))]
      rw [if_neg h10] at t4
      obtain ⟨f1, f2, f3, f4, f5, f6⟩ := fin 1 (nI e)
      rw [f5, if_neg (by decide)]
      subst t4
      exact ⟨_, rfl, f1, f2, f3, f4, f5, f6, fun z => by omega⟩
  · have hp := zRun_pos t1 t2 t3
    have hnd : ¬ zLr b s := by unfold zDi at t2; unfold zLr; omega
    have he2 := t3.2.1
    rw [rw1 s (none _ (fun _ => hnd)), xb_some, rw2 e t3, xb_some, i2, q2, if_pos (nI_lt t1 (by omega)), if_neg (nI_nlt (Nat.le_refl s) (by omega)), if_pos (nI_lt hp (by omega)), pk_sub (by omega)]
    by_cases h10 : 4 < e - s
    · rw [if_pos (show (4 : Int32) < nI (e - s) from nI_lt (a := 4) h10 (by omega))]
      rw [if_pos h10] at t4
      obtain ⟨f1, f2, f3, f4, f5, f6⟩ := fin 4 (nI e)
      rw [f5, if_neg (by decide)]
      subst t4
      exact ⟨_, rfl, f1, f2, f3, f4, f5, f6, fun z => by omega⟩
    · rw [if_neg (show ¬ (4 : Int32) < nI (e - s) from nI_nlt (a := 4) (by omega) (by omega))]
      rw [if_neg h10] at t4
      obtain ⟨f1, f2, f3, f4, f5, f6⟩ := fin 2 (nI e)
      rw [f5, if_pos rfl]
      obtain ⟨g, v1, v2, v3⟩ := zc_eval (N := N) (s := s) (e := e) hN f2 (by omega) (by omega) t3.2.2.1 f4 f6
      rw [v1, xb_some]
      subst t4
      exact ⟨g, rfl, f1.tr (v2.mono (fun a k z => by omega)), fun i hi => by rw [v2.i (by omega)]; exact f2 i hi, by rw [v2.i (by omega)]; exact f3, by rw [v2.i (by omega)]; exact f4, by rw [v2.i (by omega)]; exact f5, by rw [v2.i (by omega)]; exact f6, fun _ => v3⟩
  · have hb := qB s (by omega)
    rw [rw1 s (none _ (fun _ => t2)), xb_some, rw2 s (none _ (fun _ => t3)), xb_some, i2, q2, if_pos (nI_lt t1 (by omega)), if_neg (nI_nlt (Nat.le_refl s) (by omega)), if_neg (nI_nlt (Nat.le_refl s) (by omega)), if_pos (zb_in (by omega) (by decide)), nI_clamp (by omega), hb.1]
    by_cases h59 : b s = 59
    · rw [h59, if_pos (show nI 59 = (59 : Int32) from rfl), k5, nI_1]
      rw [if_pos h59] at t5
      obtain ⟨f1, f2, f3, f4, f5, f6⟩ := fin 3 (nI (s + 1))
      rw [f5, if_neg (by decide)]
      subst t5
      subst t4
      exact ⟨_, rfl, f1, f2, f3, f4, f5, f6, fun z => by omega⟩
    · rw [if_neg (show ¬ nI (b s) = (59 : Int32) from fun z => h59 ((nI_eq (b := 59) (by omega) (by omega)).mp z)), k5, nI_1]
      rw [if_neg h59] at t5
      obtain ⟨f1, f2, f3, f4, f5, f6⟩ := fin 4 (nI (s + 1))
      rw [f5, if_neg (by decide)]
      subst t5
      subst t4
      exact ⟨_, rfl, f1, f2, f3, f4, f5, f6, fun z => by omega⟩
end Tok
