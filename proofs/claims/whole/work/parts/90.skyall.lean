/-! the text of the sky, read by both -/
theorem s40_in {t : Nat → Nat} {q w i j : Nat} (h : s40 t q w i = .inl j) : t i = w ∧ q < 16 ∧ j = i + 1 := by
  unfold s40 at h
  by_cases h1 : t i = w
  · rw [if_pos h1] at h
    by_cases h2 : q < 16
    · rw [if_pos h2] at h
      injection h with h
      exact ⟨h1, h2, h.symm⟩
    · rw [if_neg h2] at h
      cases h
  · rw [if_neg h1] at h
    cases h
theorem s40_m {b : Nat → Nat} {n m q w i : Nat} (hT : Tok b n m) (hw : w < 30001) : inM m (s40 (tk b n) q w i) := by
  unfold s40
  by_cases h1 : tk b n i = w
  · rw [if_pos h1]
    by_cases h2 : q < 16
    · rw [if_pos h2]
      have := tk_in hT (k := i) (by omega)
      show i + 1 ≤ m
      omega
    · rw [if_neg h2]
      show 1 ≤ 3 ∧ 3 ≤ 3
      omega
  · rw [if_neg h1]
    show 1 ≤ 1 ∧ 1 ≤ 3
    omega
theorem s40_n {t : Nat → Nat} {q w i : Nat} (h : ¬ t i = w) : s40 t q w i = .inr (1, i) := if_neg h
theorem s40_f {t : Nat → Nat} {w i : Nat} (h : t i = w) : s40 t 16 w i = .inr (3, i) := by
  unfold s40
  rw [if_pos h, if_neg (by decide)]
/-- what follows is later -/
def gtR (i : Nat) : R0 → Prop
  | .inl j => i < j
  | .inr _ => True
theorem s40_g {t : Nat → Nat} {q w i : Nat} : gtR i (s40 t q w i) := by
  unfold s40
  by_cases h1 : t i = w
  · rw [if_pos h1]
    by_cases h2 : q < 16
    · rw [if_pos h2]
      exact Nat.lt_succ_self i
    · rw [if_neg h2]
      trivial
  · rw [if_neg h1]
    trivial
theorem sE_g {t : Nat → Nat} {w i : Nat} : ∀ {r : R0}, gtR i r → gtR i (sE t w r)
  | .inl j, h => by
    unfold sE
    by_cases h1 : t j = w
    · simp only [if_pos h1]
      exact Nat.lt_succ_of_lt h
    · simp only [if_neg h1]
      trivial
  | .inr _, _ => trivial
theorem sN_g {t : Nat → Nat} {lo hi i : Nat} : ∀ {r : R0}, gtR i r → gtR i (sN t lo hi r)
  | .inl j, h => by
    unfold sN
    by_cases h1 : t j < 10000 ∧ lo ≤ t j ∧ t j ≤ hi
    · simp only [if_pos h1]
      exact Nat.lt_succ_of_lt h
    · simp only [if_neg h1]
      trivial
  | .inr _, _ => trivial
theorem sk3_g {t : Nat → Nat} {i : Nat} {r : R0} (h : gtR i r) : gtR i (sk3 t r) := by
  have h2 := sN_g (t := t) (lo := 0) (hi := 999) h
  unfold sk3
  match sN t 0 999 r, h2 with
  | .inr _, _ => trivial
  | .inl j, h2 =>
    have h3 : gtR i (.inl (j + 1)) := Nat.lt_succ_of_lt h2
    by_cases h5 : t j = 10005
    · simp only [if_pos h5]
      exact sN_g h3
    · simp only [if_neg h5]
      by_cases h6 : t j = 10006
      · simp only [if_pos h6]
        exact h3
      · simp only [if_neg h6]
        exact sE_g h2
theorem sk3_m {b : Nat → Nat} {n m : Nat} {r : R0} (hT : Tok b n m) (h : inM m r) : inM m (sk3 (tk b n) r) := by
  have h2 := sN_m (lo := 0) (hi := 999) hT h
  unfold sk3
  match sN (tk b n) 0 999 r, h2 with
  | .inr _, h2 => exact h2
  | .inl j, h2 =>
    by_cases h5 : tk b n j = 10005
    · simp only [if_pos h5]
      have h3 : inM m (.inl (j + 1)) := by
        have := tk_in hT (k := j) (by omega)
        show j + 1 ≤ m
        omega
      exact sN_m hT h3
    · simp only [if_neg h5]
      by_cases h6 : tk b n j = 10006
      · simp only [if_pos h6]
        have := tk_in hT (k := j) (by omega)
        show j + 1 ≤ m
        omega
      · simp only [if_neg h6]
        exact sE_m hT (by decide) h2
theorem sk3_r {t : Nat → Nat} {z : Nat × Nat} : sk3 t (.inr z) = .inr z := rfl
theorem skv_le {t : Nat → Nat} {r : R0} : skv t r ≤ 11 := by
  unfold skv
  match sN t 0 999 r with
  | .inr _ => exact Nat.le_refl _
  | .inl j =>
    by_cases h5 : t j = 10005
    · simp only [if_pos h5]
      have := vN_le (t := t) (lo := 0) (hi := 9) (r := .inl (j + 1))
      omega
    · simp only [if_neg h5]
      by_cases h6 : t j = 10006
      · simp only [if_pos h6]
        decide
      · simp only [if_neg h6]
        exact Nat.le_refl _
theorem skyR_in {t : Nat → Nat} {q i j : Nat} (h : skyR t q i = .inl j) : t i = 10017 ∧ q < 16 ∧ s40 t q 10017 i = .inl (i + 1) := by
  unfold skyR at h
  match hs : s40 t q 10017 i, h with
  | .inr z, h => cases h
  | .inl k, h =>
    obtain ⟨a1, a2, a3⟩ := s40_in hs
    exact ⟨a1, a2, by rw [a3]⟩
def SkI (t : Nat → Nat) (M : Mem) (P : List Nat) : Prop := M.1 50 1 1 = iN P.length ∧ ∀ (q i : Nat), P[q]? = some i → M.1 57 1 q = iN (vN t 0 999 (.inl (i + 1))) ∧ M.1 58 1 q = iN (skv t (.inl (i + 1)))
def SkJ (t : Nat → Nat) (M : Mem) (P : List Nat) : Prop := ∀ (q i : Nat), P[q]? = some i → SkV M q (vN t 0 999 (.inl (i + 1))) (skv t (.inl (i + 1)))
theorem Pk_r {q : Nat} : ∀ c a j, PkP q c a j → RdP c a j := fun c a j h => by simp only [PkP] at h; simp only [RdP]; omega
theorem Rk_q {lo hi : Nat} : ∀ c a j, RkP lo hi c a j → RqP c a j := fun c a j h => by simp only [RkP] at h; simp only [RqP]; omega
theorem sky_all {X : Cx} {b : Nat → Nat} {n m : Nat} (hX : StrOk X) (hT : Tok b n m) : ∃ r : Rr, (∀ (d : Nat) (M : Mem), CA M b n m 0 → SkI (tk b n) M [] → ∃ M', K3 RdP M M' ∧ rrC (fun P' => CA M' b n m m ∧ SkI (tk b n) M' P') (fun e p => DD M' b n m e p) r ∧ ∀ Q : Option Vl → Mem → Prop, Q (some (vI (rrR r))) M' → V X (d + 7) 24 46 [some (vR 3 0), some (vI (iN 2)), some (vI (iN 0))] [] M Q) ∧ (∀ (f : Nat) (M : Mem), RS M b n 2 0 → M.1 100 0 15 = iN 0 → SkJ (tk b n) M [] → ∃ M', K3 RyP M M' ∧ rrC (fun P' => RS M' b n 2 m ∧ M'.1 100 0 15 = iN P'.length ∧ SkJ (tk b n) M' P') (fun e p => Bad M' b n e p) r ∧ ∀ Q : Option Vl → Mem → Prop, Q (some (vI (rrB r))) M' → V X (f + 40) 196 36 [some (vR 100 0), some (vI 1)] [] M Q) ∧ rrC (fun P' => P'.length ≤ 16 ∧ True) (fun e _ => 1 ≤ e ∧ e ≤ 3) r := by
  refine rows_loop (w := 10017) (rtn := 7) (meth := 51) (RR := skyR (tk b n)) (okP := fun _ => True) hT (by decide) (by decide) (fun v => rt_wk (by omega)) (by decide) (by decide) (fun q i h => by unfold skyR; rw [s40_n h]; rfl) (fun i h => by unfold skyR; rw [s40_f h]; rfl) (fun q i hi => sE_m hT (by decide) (sk3_m hT (s40_m hT (by decide)))) (fun q i j h => ?_) (fun _ _ _ _ _ => trivial) (fun d i M P hP hC hI => ?_) (fun f i M P hP hi hS h15 hI => ?_) (fun M P x h q i hq => ?_) (fun h1 h2 h3 h4 h5 => ?_) (fun h1 h2 h3 h4 => ?_) (m + 1) 0 [] (by omega) (Nat.zero_le _) (by decide) trivial
  · have := sE_g (t := tk b n) (w := 20059) (sk3_g (t := tk b n) (s40_g (t := tk b n) (q := q) (w := 10017) (i := i)))
    have h : sE (tk b n) 20059 (sk3 (tk b n) (s40 (tk b n) q 10017 i)) = .inl j := h
    rw [h] at this
    exact this
  · obtain ⟨M', p1, p2, p3, p4⟩ := c51 (X := X) (d := d + 3) hT hC hP
    refine ⟨M', p1, p2, k3_sub p4 Pk_r, fun j hj => ?_⟩
    obtain ⟨a1, a2, a3⟩ := skyR_in hj
    obtain ⟨b1, b2, b3⟩ := p3 a2
    rw [a3] at b1 b2
    refine ⟨by rw [b3, List.length_append]; rfl, fun q i' hq => ?_⟩
    rcases get_snoc hq with ⟨hl, hq2⟩ | ⟨hl, hq2⟩
    · rw [p4 57 1 q (by simp only [PkP]; omega), p4 58 1 q (by simp only [PkP]; omega)]
      exact hI.2 q i' hq2
    · rw [hl, hq2]
      exact ⟨b1, b2⟩
  · obtain ⟨M', p1, p2, p3, p4⟩ := c195_sky (X := X) (d := f + 27) hX hT hS h15 hP hi
    refine ⟨M', p1, p2, k3_sub p4 Rk_q, fun j hj => ?_⟩
    obtain ⟨a1, a2, a3⟩ := skyR_in hj
    rw [hj, a3] at p3
    intro q i' hq
    rcases get_snoc hq with ⟨hl, hq2⟩ | ⟨hl, hq2⟩
    · obtain ⟨c1, c2, c3, c4⟩ := hI q i' hq2
      have e107 : ∀ j, j < 3 * P.length → M'.1 107 0 j = M.1 107 0 j := fun j hj => p4 107 0 j (by simp only [RkP]; omega)
      exact ⟨by rw [e107 _ (by omega)]; exact c1, fun z => by rw [e107 _ (by omega), e107 _ (by omega)]; exact c2 z, fun z => by rw [e107 _ (by omega)]; exact c3 z, fun z => by rw [e107 _ (by omega)]; exact c4 z⟩
    · rw [hl, hq2]
      exact p3 rfl
  · obtain ⟨c1, c2, c3, c4⟩ := h q i hq
    exact ⟨by rw [st_ne3 (fun z => absurd z.1 (by decide))]; exact c1, fun z => by rw [st_ne3 (fun z => absurd z.1 (by decide)), st_ne3 (fun z => absurd z.1 (by decide))]; exact c2 z, fun z => by rw [st_ne3 (fun z => absurd z.1 (by decide))]; exact c3 z, fun z => by rw [st_ne3 (fun z => absurd z.1 (by decide))]; exact c4 z⟩
  · exact w24_46 ⟨fun z => absurd z h1, fun _ => ⟨fun z => absurd h2 z, fun _ => ⟨_, _, h3, fun z => absurd rfl z, fun _ => ⟨fun _ => ⟨fun _ => ⟨fun z => absurd rfl z, fun _ => ⟨_, h4, h5⟩⟩, fun z => absurd z (by decide)⟩, fun z => absurd z (by decide)⟩⟩⟩⟩
  · exact w196_36 ⟨fun z => absurd z n10, fun _ => ⟨fun z => absurd z h2, fun _ => ⟨fun _ => ⟨h3, h4⟩, fun z => absurd z (by rw [h1]; decide)⟩⟩⟩
