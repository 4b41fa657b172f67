/-! the reference's row of sky -/
theorem kw2_in {M : Mem} {b : Nat → Nat} {n m j : Nat} (hT : Tok b n m) (h : RS M b n 2 j) : inR (M.1 100 0 18) 11 13 = decide (tk b n j = 10005 ∨ tk b n j = 10006 ∨ tk b n j = 10021) := by
  have h2 := rt_b (k := 2) (tk_b hT j)
  rw [h.2.2.2.2.1, show inR (iN (rt 2 (tk b n j))) 11 13 = (decide (11 ≤ rt 2 (tk b n j)) && decide (rt 2 (tk b n j) ≤ 13)) from inR_d (lo := 11) (hi := 13) (by omega) (by decide) (by decide), ← Bool.decide_and]
  refine decide_eq_decide.mpr ⟨fun z => ?_, fun z => ?_⟩
  · have h3 := rt_l (rt 2 (tk b n j)) rfl (by omega) (by omega)
    rw [rt_w h3.1 h3.2] at z
    have z : 11 ≤ rt2 (tk b n j) ∧ rt2 (tk b n j) ≤ 13 := z
    have h4 := rt2_c (tk b n j)
    omega
  · rw [rt_w (by omega) (by omega)]
    show 11 ≤ rt2 (tk b n j) ∧ rt2 (tk b n j) ≤ 13
    have h4 := rt2_c (tk b n j)
    omega
def SkV (M : Mem) (q y s : Nat) : Prop := M.1 107 0 (3 * q) = iN y ∧ (s ≤ 9 → M.1 107 0 (3 * q + 1) = 11 ∧ M.1 107 0 (3 * q + 2) = iN s) ∧ (s = 10 → M.1 107 0 (3 * q + 1) = 12) ∧ (s = 11 → M.1 107 0 (3 * q + 1) = 13)
theorem Rk_sub {lo hi lo2 hi2 : Nat} (h1 : lo2 ≤ lo) (h2 : hi ≤ hi2) : ∀ c a j, RkP lo hi c a j → RkP lo2 hi2 c a j := fun c a j h => by simp only [RkP] at h; simp only [RkP]; omega
theorem Rk107 {lo hi j : Nat} (h : lo ≤ j ∧ j < hi) : RkP lo hi 107 0 j := ⟨rfl, Or.inr ⟨rfl, h⟩⟩
theorem okR0_b : ∀ {r : R0}, okR0 r = 0 ∨ okR0 r = 1
  | .inl _ => Or.inr rfl
  | .inr _ => Or.inl rfl
theorem vN_le {t : Nat → Nat} {lo hi : Nat} : ∀ {r : R0}, vN t lo hi r ≤ hi
  | .inl i => by
    unfold vN
    by_cases h : t i < 10000 ∧ lo ≤ t i ∧ t i ≤ hi
    · simp only [if_pos h]
      exact h.2.2
    · simp only [if_neg h]
      exact Nat.zero_le _
  | .inr _ => Nat.zero_le _
theorem c192 {X : Cx} {d : Nat} {M : Mem} {b : Nat → Nat} {n m i q : Nat} (hX : StrOk X) (hT : Tok b n m) (h : RS M b n 2 i) (h15 : M.1 100 0 15 = iN q) (hq : q < 16) (hi : tk b n i = 10017) : ∃ M', CC X (d + 11) 192 [vR 100 0] M (some (vI (okR0 (sk3 (tk b n) (.inl (i + 1)))))) M' ∧ RT M' b n 2 (sk3 (tk b n) (.inl (i + 1))) ∧ (okR0 (sk3 (tk b n) (.inl (i + 1))) = 1 → SkV M' q (vN (tk b n) 0 999 (.inl (i + 1))) (skv (tk b n) (.inl (i + 1)))) ∧ K3 (RkP (3 * q) (3 * q + 3)) M M' := by
  have e3 : 3 * iN q = iN (3 * q) := by simp only [iN_lit, iN_mul]
  have e31 : iN (3 * q) + 1 = iN (3 * q + 1) := by simp only [iN_lit, iN_add]
  have e32 : iN (3 * q) + 2 = iN (3 * q + 2) := by simp only [iN_lit, iN_add]
  obtain ⟨M1, p1, p2, p3, p4⟩ := c189_s (X := X) (d := d) (q := 3 * q) (lo := 0) (hi := 999) (w := 10017) (r := 7) hX hT (by decide) h (by decide) (fun v => rt_wk (by omega)) (by omega) (by decide) (by decide)
  have hsE : sE (tk b n) 10017 (.inl i) = .inl (i + 1) := if_pos hi
  rw [hsE] at p1 p2 p3
  have k1 := k3_sub p4 (Rk_sub (lo2 := 3 * q) (hi2 := 3 * q + 3) (Nat.le_refl _) (by omega))
  unfold sk3 skv
  match hs : sN (tk b n) 0 999 (.inl (i + 1)), p1, p2, p3 with
  | .inr (e, p), p1, p2, p3 =>
    refine ⟨M1, e192 (w192_0 ?_), p2, fun z => absurd z.symm n10, k1⟩
    rw [h15, e3]
    exact ⟨_, _, p1, fun z => absurd rfl z, fun _ => ⟨isB0, rfl, rfl⟩⟩
  | .inl j, p1, p2, p3 =>
    have p2 : RS M1 b n 2 j := p2
    have cin := c151 (X := X) (d := d + 9) (M := M1) (v := M1.1 100 0 18) (lo := 11) (hi := 13)
    rw [kw2_in hT p2] at cin
    by_cases hkw : tk b n j = 10005 ∨ tk b n j = 10006 ∨ tk b n j = 10021
    · rw [decide_eq_true hkw] at cin
      obtain ⟨M4, s1, s2, s3⟩ := c175 (X := X) (d := d + 2) hX (by decide) (p2.st107 (q := 3 * q + 1) (x := M1.1 100 0 18))
      have v1 : M4.1 107 0 (3 * q + 1) = M1.1 100 0 18 := by rw [s3 107 0 _ (by simp [NxP]), st_at]
      have v0 : M4.1 107 0 (3 * q) = iN (vN (tk b n) 0 999 (.inl (i + 1))) := by rw [s3 107 0 _ (by simp [NxP]), st_ne3 (by omega)]; exact p3 rfl
      have k4 : K3 (RkP (3 * q) (3 * q + 3)) M M4 := k3_trans k1 (k3_trans (k3_st (Rk107 (by omega))) (k3_sub s3 (fun c a j z => by simp only [NxP] at z; simp only [RkP]; omega)))
      have r11 : (M1.1 100 0 18 = 11) = (tk b n j = 10005) := r18_w (r := 11) hT p2 (by decide) (fun v => rt_wk (by omega))
      have r12 : (M1.1 100 0 18 = 12) = (tk b n j = 10006) := r18_w (r := 12) hT p2 (by decide) (fun v => rt_wk (by omega))
      have r13 : (M1.1 100 0 18 = 13) = (tk b n j = 10021) := r18_w (r := 13) hT p2 (by decide) (fun v => rt_wk (by omega))
      by_cases h5 : tk b n j = 10005
      · simp only [if_pos h5]
        obtain ⟨M5, t1, t2, t3, t4⟩ := c188_s (X := X) (d := d + 1) (q := 3 * q + 2) (lo := 0) (hi := 9) hX hT (by decide) s2 (by omega) (by decide) (by decide)
        refine ⟨M5, e192 (w192_0 ?_), t2, fun z => ⟨?_, fun _ => ⟨?_, t3 z⟩, fun z2 => ?_, fun z2 => ?_⟩, k3_trans k4 (k3_sub t4 (fun c a j z => by simp only [RqP] at z; simp only [RkP]; omega))⟩
        · rw [h15, e3]
          refine ⟨_, _, p1, fun _ => ⟨_, _, cin, fun _ => ?_, fun z => absurd z n10⟩, fun z => absurd z n10⟩
          rw [e31, ix_of (by omega)]
          refine ⟨inb_of (by omega) (by decide), fun M3 hM3 => ?_⟩
          subst hM3
          refine ⟨_, s1, inb_of (by omega) (by decide), fun z => absurd ((Iff.of_eq r11).mpr h5) (by rw [v1] at z; exact z), fun _ => ?_⟩
          rw [e32]
          refine ⟨_, _, t1, fun z => ?_, fun z => ?_⟩
          · rw [z]
            exact ⟨isB0, rfl, rfl⟩
          · rcases okR0_b (r := sN (tk b n) 0 9 (.inl (j + 1))) with y | y
            · exact absurd y z
            · rw [y]
              exact ⟨isB1, rfl, rfl⟩
        · rw [t4 107 0 _ (by omega)]
          exact v0
        · rw [t4 107 0 _ (by omega), v1]
          exact (Iff.of_eq r11).mpr h5
        · have := vN_le (t := tk b n) (lo := 0) (hi := 9) (r := .inl (j + 1))
          omega
        · have := vN_le (t := tk b n) (lo := 0) (hi := 9) (r := .inl (j + 1))
          omega
      · simp only [if_neg h5]
        have fin : ∀ {Mx : Mem}, Mx = M4 → CC X (d + 11) 192 [vR 100 0] M (some (vI 1)) Mx := by
          intro Mx hMx
          subst hMx
          refine e192 (w192_0 ?_)
          rw [h15, e3]
          refine ⟨_, _, p1, fun _ => ⟨_, _, cin, fun _ => ?_, fun z => absurd z n10⟩, fun z => absurd z n10⟩
          rw [e31, ix_of (by omega)]
          refine ⟨inb_of (by omega) (by decide), fun M3 hM3 => ?_⟩
          subst hM3
          refine ⟨_, s1, inb_of (by omega) (by decide), fun _ => ⟨isB1, rfl, rfl⟩, fun z => ?_⟩
          rw [v1] at z
          exact absurd ((Iff.of_eq r11).mp z) h5
        by_cases h6 : tk b n j = 10006
        · simp only [if_pos h6]
          exact ⟨M4, fin rfl, s2, fun _ => ⟨v0, fun z => absurd z (by decide), fun _ => by rw [v1]; exact (Iff.of_eq r12).mpr h6, fun z => absurd z (by decide)⟩, k4⟩
        · simp only [if_neg h6]
          have h21 : tk b n j = 10021 := by omega
          rw [show sE (tk b n) 10021 (.inl j) = .inl (j + 1) from if_pos h21]
          exact ⟨M4, fin rfl, s2, fun _ => ⟨v0, fun z => absurd z (by decide), fun z => absurd z (by decide), fun _ => by rw [v1]; exact (Iff.of_eq r13).mpr h21⟩, k4⟩
    · rw [decide_eq_false hkw] at cin
      simp only [if_neg (show ¬ tk b n j = 10005 by omega), if_neg (show ¬ tk b n j = 10006 by omega)]
      rw [show sE (tk b n) 10021 (.inl j) = .inr (1, j) from if_neg (by omega)]
      obtain ⟨M6, s1, s2, s3⟩ := c176 (X := X) (d := d + 9) (e := 1) p2
      refine ⟨M6, e192 (w192_0 ?_), s2, fun z => absurd z.symm n10, k3_trans k1 (k3_sub s3 (fun c a j z => by simp only [RkP]; omega))⟩
      rw [h15, e3]
      exact ⟨_, _, p1, fun _ => ⟨_, _, cin, fun z => absurd rfl z, fun _ => ⟨_, _, s1, isB0, rfl, rfl⟩⟩, fun z => absurd z n10⟩
theorem c195_sky {X : Cx} {d : Nat} {M : Mem} {b : Nat → Nat} {n m i q : Nat} (hX : StrOk X) (hT : Tok b n m) (h : RS M b n 2 i) (h15 : M.1 100 0 15 = iN q) (hq : q < 16) (hi : tk b n i = 10017) : ∃ M', CC X (d + 12) 195 [vR 100 0] M (some (vI (okR0 (skyR (tk b n) q i)))) M' ∧ RT M' b n 2 (skyR (tk b n) q i) ∧ (okR0 (skyR (tk b n) q i) = 1 → SkV M' q (vN (tk b n) 0 999 (s40 (tk b n) q 10017 i)) (skv (tk b n) (s40 (tk b n) q 10017 i))) ∧ K3 (RkP (3 * q) (3 * q + 3)) M M' := by
  have h40 : s40 (tk b n) q 10017 i = .inl (i + 1) := by
    unfold s40
    rw [if_pos hi, if_pos hq]
  have n12 : ¬ M.1 100 0 12 = 1 := by rw [h.2.1]; decide
  have e12 : M.1 100 0 12 = 2 := h.2.1
  unfold skyR
  rw [h40]
  obtain ⟨M1, p1, p2, p3, p4⟩ := c192 (X := X) (d := d) hX hT h h15 hq hi
  match hs : sk3 (tk b n) (.inl (i + 1)), p1, p2, p3 with
  | .inr (e, p), p1, p2, p3 => exact ⟨M1, e195 (w195_0 ⟨fun _ => ⟨fun z => absurd e12 z, fun _ => ⟨_, _, p1, fun _ => ⟨isB0, rfl, rfl⟩, fun z => absurd rfl z⟩⟩, fun z => absurd z n12⟩), p2, fun z => absurd z.symm n10, p4⟩
  | .inl j, p1, p2, p3 =>
    obtain ⟨M2, q1, q2, q3⟩ := c177_s (X := X) (d := d + 2) (w := 20059) (r := 159) hX hT (by decide) (show RS M1 b n 2 j from p2) (by decide) (sg_w (c := 59) (by decide) (by decide) (by decide))
    refine ⟨M2, e195 (w195_0 ⟨fun _ => ⟨fun z => absurd e12 z, fun _ => ⟨_, _, p1, fun z => absurd z n10, fun _ => ⟨_, _, q1, fun z => ?_, fun z => ?_⟩⟩⟩, fun z => absurd z n12⟩), q2, fun _ => ?_, k3_trans p4 (k3_sub q3 (fun c a j z => by simp only [RqP] at z; simp only [RkP]; omega))⟩
    · rw [z]
      exact ⟨isB0, rfl, rfl⟩
    · rcases okR0_b (r := sE (tk b n) 20059 (.inl j)) with y | y
      · exact absurd y z
      · rw [y]
        exact ⟨isB1, rfl, rfl⟩
    · obtain ⟨a1, a2, a3, a4⟩ := p3 rfl
      have e107 : ∀ j, M2.1 107 0 j = M1.1 107 0 j := fun j => q3 107 0 j (fun z => z.2 rfl)
      exact ⟨by rw [e107]; exact a1, fun z => by rw [e107, e107]; exact a2 z, fun z => by rw [e107]; exact a3 z, fun z => by rw [e107]; exact a4 z⟩
