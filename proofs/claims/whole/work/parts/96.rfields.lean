/-! the reference's row of fields -/
def DgR (M : Mem) (B R k : Nat) : Prop := ∀ j, j < k → M.1 107 0 (B + 3 + j) = iN (R / 10 ^ (k - 1 - j) % 10)
theorem e3_ {B k : Nat} : iN B + 3 + iN k = iN (B + 3 + k) := by simp only [iN_lit, iN_add]
theorem c190_fill {X : Cx} {d B : Nat} (hB : B + 9 ≤ 144) : ∀ (g k : Nat) (M : Mem), k + g = 6 → ∃ M', (∀ j, k ≤ j → j < 6 → M'.1 107 0 (B + 3 + j) = -1) ∧ K3 (fun c a j => c = 107 ∧ a = 0 ∧ B + 3 + k ≤ j ∧ j < B + 9) M M' ∧ ∀ Q : Option Vl → Mem → Prop, Q (some (vI 1)) M' → V X (d + 1) 190 114 [some (vR 100 0), some (vI (iN B)), none, some (vI (iN k))] [] M Q := by
  intro g
  induction g with
  | zero =>
    intro k M hk
    have : k = 6 := by omega
    subst this
    exact ⟨M, fun j h1 h2 => by omega, k3_refl, fun Q hQ => w190_114 ⟨fun _ => ⟨isB1, hQ⟩, fun z => absurd (by decide) z⟩⟩
  | succ g ih =>
    intro k M hk
    obtain ⟨M', f1, f2, f3⟩ := ih (k + 1) (st M 107 0 (B + 3 + k) (-1)) (by omega)
    refine ⟨M', fun j h1 h2 => ?_, k3_trans (k3_st ⟨rfl, rfl, by omega, by omega⟩) (k3_sub f2 (fun c a j z => ⟨z.1, z.2.1, by omega, z.2.2.2⟩)), fun Q hQ => w190_114 ⟨fun z => absurd z ?_, fun _ => ?_⟩⟩
    · by_cases hjk : j = k
      · subst hjk
        rw [f2 107 0 _ (by omega), st_at]
      · exact f1 j (by omega) h2
    · rw [show (6 ≤ iN k) = False from nle_ (a := 6) (by decide) (by omega) (by omega)]
      exact id
    · rw [e3_, ix_of (by omega)]
      refine ⟨inb_of (by omega) (by decide), fun M1 hM1 => ?_⟩
      subst hM1
      rw [iN_step]
      exact f3 Q hQ
theorem c190_run {X : Cx} {d : Nat} {b : Nat → Nat} {n m h B : Nat} (hX : StrOk X) (hT : Tok b n m) (hh : h ≤ 10) (hB : B + 9 ≤ 144) : ∀ (c R i : Nat) (M : Mem), c ≤ 5 → RS M b n 1 i → M.1 101 0 229 = iN h → DgR M B R (6 - c) → ∃ M', RT M' b n 1 (fdL (tk b n) h c R (.inl i)).1 ∧ K3 (RkP (B + 3) (B + 9)) M M' ∧ (∀ j, (fdL (tk b n) h c R (.inl i)).1 = .inl j → DgR M' B (fdL (tk b n) h c R (.inl i)).2.1 (fdL (tk b n) h c R (.inl i)).2.2 ∧ ∀ j, (fdL (tk b n) h c R (.inl i)).2.2 ≤ j → j < 6 → M'.1 107 0 (B + 3 + j) = -1) ∧ ∀ Q : Option Vl → Mem → Prop, Q (some (vI (okR0 (fdL (tk b n) h c R (.inl i)).1))) M' → V X (d + 10) 190 34 [some (vR 100 0), some (vI (iN B)), some (vI (iN (6 - c))), none] [] M Q := by
  have x229 : ix 229 = 229 := ix_l (by decide)
  have b229 : inb 229 2129 := inb_of (n := 229) (by decide) (by decide)
  intro c
  -- no number: the row ends
  have stop : ∀ (k R i : Nat) (M : Mem), k ≤ 6 → RS M b n 1 i → DgR M B R k → ¬ tk b n i < 10000 → ∃ M', RS M' b n 1 i ∧ K3 (RkP (B + 3) (B + 9)) M M' ∧ DgR M' B R k ∧ (∀ j, k ≤ j → j < 6 → M'.1 107 0 (B + 3 + j) = -1) ∧ ∀ Q : Option Vl → Mem → Prop, Q (some (vI 1)) M' → V X (d + 10) 190 34 [some (vR 100 0), some (vI (iN B)), some (vI (iN k)), none] [] M Q := by
    intro k R i M hk hR hD h1
    obtain ⟨M', f1, f2, f3⟩ := c190_fill (X := X) (d := d + 9) hB (6 - k) k M (by omega)
    refine ⟨M', hR.k f2 (fun j hj => by omega) (fun j => by omega), k3_sub f2 (fun c a j z => by simp only [RkP]; omega), fun j hj => ?_, f1, fun Q hQ => w190_34 ⟨fun _ => f3 Q hQ, fun z => absurd ((Iff.of_eq (r18_2 hT hR)).mp z) h1⟩⟩
    rw [f2 107 0 _ (by omega)]
    exact hD j hj
  induction c with
  | zero =>
    intro R i M hc hR h229 hD
    have htb := tk_b hT i
    unfold fdL
    by_cases h1 : tk b n i < 10000
    · have t18 := (Iff.of_eq (r18_2 hT hR)).mpr h1
      have t20 := hR.2.2.2.2.2 h1
      have cin := c151 (X := X) (d := d + 8) (M := M) (v := M.1 100 0 20) (lo := 0) (hi := iN h - 1)
      have hin : inR (iN (tk b n i)) 0 (iN h - 1) = decide (tk b n i < h) := by
        rw [inR_x (by omega) (by omega), ← Bool.decide_and]
        refine decide_eq_decide.mpr ⟨fun z => ?_, fun z => ?_⟩
        · by_cases hc : h = 0
          · rw [if_pos hc] at z
            omega
          · omega
        · rw [if_neg (by omega)]
          omega
      rw [t20, hin] at cin
      simp only [if_pos h1]
      by_cases h2 : tk b n i < h
      · simp only [if_pos h2]
        rw [decide_eq_true h2] at cin
        obtain ⟨M1, p1, p2, p3⟩ := c176 (X := X) (d := d + 8) (e := 3) hR
        refine ⟨M1, p2, k3_sub p3 (fun c a j z => by simp only [RkP]; omega), fun j hj => noInl ⟨j, hj⟩, fun Q hQ => w190_34 ⟨fun z => absurd t18 z, fun _ => ?_⟩⟩
        rw [x229, h229, t20]
        exact ⟨b229, _, _, cin, fun _ => ⟨fun z => absurd rfl z, fun _ => ⟨_, _, p1, isB0, hQ⟩⟩, fun z => absurd z n10⟩
      · simp only [if_neg h2]
        rw [decide_eq_false h2] at cin
        obtain ⟨M1, p1, p2, p3⟩ := c176 (X := X) (d := d + 8) (e := 2) hR
        refine ⟨M1, p2, k3_sub p3 (fun c a j z => by simp only [RkP]; omega), fun j hj => noInl ⟨j, hj⟩, fun Q hQ => w190_34 ⟨fun z => absurd t18 z, fun _ => ?_⟩⟩
        rw [x229, h229, t20]
        exact ⟨b229, _, _, cin, fun z => absurd rfl z, fun _ => ⟨_, _, p1, isB0, hQ⟩⟩
    · simp only [if_neg h1]
      obtain ⟨M', f1, f2, f3, f4, f5⟩ := stop 6 R i M (by decide) hR hD h1
      exact ⟨M', f1, f2, fun _ _ => ⟨f3, f4⟩, f5⟩
  | succ c ih =>
    intro R i M hc hR h229 hD
    have htb := tk_b hT i
    unfold fdL
    by_cases h1 : tk b n i < 10000
    · have t18 := (Iff.of_eq (r18_2 hT hR)).mpr h1
      have t20 := hR.2.2.2.2.2 h1
      have cin := c151 (X := X) (d := d + 8) (M := M) (v := M.1 100 0 20) (lo := 0) (hi := iN h - 1)
      have hin : inR (iN (tk b n i)) 0 (iN h - 1) = decide (tk b n i < h) := by
        rw [inR_x (by omega) (by omega), ← Bool.decide_and]
        refine decide_eq_decide.mpr ⟨fun z => ?_, fun z => ?_⟩
        · by_cases hc : h = 0
          · rw [if_pos hc] at z
            omega
          · omega
        · rw [if_neg (by omega)]
          omega
      rw [t20, hin] at cin
      simp only [if_pos h1]
      by_cases h2 : tk b n i < h
      · simp only [if_pos h2]
        rw [decide_eq_true h2] at cin
        obtain ⟨M1, p1, p2, p3, p4⟩ := c188_x (X := X) (d := d) (q := B + 3 + (6 - (c + 1))) (c := h) hX hT (by decide) hR (by omega) (by omega)
        rw [sX_if, if_pos ⟨h1, h2⟩] at p1 p2 p3
        rw [vX_if ⟨h1, h2⟩] at p3
        have hD2 : DgR M1 B (R * 10 + tk b n i) (6 - c) := by
          intro j hj
          by_cases hjk : j < 6 - (c + 1)
          · rw [p4 107 0 _ (by omega), show 6 - c - 1 - j = (6 - (c + 1)) + 1 - 1 - j by omega, dg_old (by omega) hjk]
            exact hD j hjk
          · rw [show j = 6 - (c + 1) by omega, p3 rfl, show 6 - c - 1 - (6 - (c + 1)) = (6 - (c + 1)) + 1 - 1 - (6 - (c + 1)) by omega, dg_new (by omega)]
        obtain ⟨M', f1, f2, f3, f4⟩ := ih (R * 10 + tk b n i) (i + 1) M1 (by omega) p2 (by rw [p4 101 0 229 (by simp [RqP])]; exact h229) hD2
        refine ⟨M', f1, k3_trans (k3_sub p4 (fun c' a j z => by simp only [RqP] at z; simp only [RkP]; omega)) f2, f3, fun Q hQ => w190_34 ⟨fun z => absurd t18 z, fun _ => ?_⟩⟩
        rw [x229, h229, t20]
        refine ⟨b229, _, _, cin, fun _ => ⟨fun _ => ⟨b229, ?_⟩, fun z => absurd z ?_⟩, fun z => absurd z n10⟩
        · rw [e3_, h229]
          refine ⟨_, _, p1, fun _ => ?_, fun z => absurd z n10⟩
          rw [iN_step, show 6 - (c + 1) + 1 = 6 - c by omega]
          exact f4 Q hQ
        · rw [show (iN (6 - (c + 1)) = 6) = False from neq_ (b := 6) (by omega) (by decide) (by omega)]
          exact id
      · simp only [if_neg h2]
        rw [decide_eq_false h2] at cin
        obtain ⟨M1, p1, p2, p3⟩ := c176 (X := X) (d := d + 8) (e := 2) hR
        refine ⟨M1, p2, k3_sub p3 (fun c a j z => by simp only [RkP]; omega), fun j hj => noInl ⟨j, hj⟩, fun Q hQ => w190_34 ⟨fun z => absurd t18 z, fun _ => ?_⟩⟩
        rw [x229, h229, t20]
        exact ⟨b229, _, _, cin, fun z => absurd rfl z, fun _ => ⟨_, _, p1, isB0, hQ⟩⟩
    · simp only [if_neg h1]
      obtain ⟨M', f1, f2, f3, f4, f5⟩ := stop (6 - (c + 1)) R i M (by omega) hR hD h1
      rw [show 5 - c = 6 - (c + 1) by omega]
      exact ⟨M', f1, f2, fun _ _ => ⟨f3, f4⟩, f5⟩
/-- the word, the first field, the others -/
def fdA (t : Nat → Nat) (h : Nat) (r : R0) : R0 × Nat × Nat := fdL t h 5 (10 + vX t h r) (sX t h r)
theorem c190 {X : Cx} {d : Nat} {M : Mem} {b : Nat → Nat} {n m h B i : Nat} (hX : StrOk X) (hT : Tok b n m) (hh : h ≤ 10) (hB : B + 9 ≤ 144) (hR : RS M b n 1 i) (h229 : M.1 101 0 229 = iN h) : ∃ M', CC X (d + 10) 190 [vR 100 0, vI (iN B)] M (some (vI (okR0 (fdA (tk b n) h (sE (tk b n) 10019 (.inl i))).1))) M' ∧ RT M' b n 1 (fdA (tk b n) h (sE (tk b n) 10019 (.inl i))).1 ∧ K3 (RkP (B + 3) (B + 9)) M M' ∧ ∀ j, (fdA (tk b n) h (sE (tk b n) 10019 (.inl i))).1 = .inl j → DgR M' B (fdA (tk b n) h (sE (tk b n) 10019 (.inl i))).2.1 (fdA (tk b n) h (sE (tk b n) 10019 (.inl i))).2.2 ∧ ∀ j, (fdA (tk b n) h (sE (tk b n) 10019 (.inl i))).2.2 ≤ j → j < 6 → M'.1 107 0 (B + 3 + j) = -1 := by
  have x229 : ix 229 = 229 := ix_l (by decide)
  have b229 : inb 229 2129 := inb_of (n := 229) (by decide) (by decide)
  have e33 : iN B + 3 = iN (B + 3) := by simp only [iN_lit, iN_add]
  obtain ⟨M1, p1, p2, p3⟩ := c177_s (X := X) (d := d) (w := 10019) (r := 9) hX hT (by decide) hR (by decide) (fun v => rt_wk (by omega))
  have k1 : K3 (RkP (B + 3) (B + 9)) M M1 := k3_sub p3 (fun c a j z => by simp only [RqP] at z; simp only [RkP]; omega)
  unfold fdA
  match hs : sE (tk b n) 10019 (.inl i), p1, p2 with
  | .inr (e, p), p1, p2 => exact ⟨M1, e190 (w190_0 ⟨_, _, p1, fun _ => ⟨isB0, rfl, rfl⟩, fun z => absurd rfl z⟩), p2, k1, fun j hj => by cases hj⟩
  | .inl i1, p1, p2 =>
    have w229 : M1.1 101 0 229 = iN h := by rw [p3 101 0 229 (by simp [RqP])]; exact h229
    obtain ⟨M2, q1, q2, q3, q4⟩ := c188_x (X := X) (d := d) (q := B + 3) (c := h) hX hT (by decide) (show RS M1 b n 1 i1 from p2) (by omega) (by omega)
    have k2 : K3 (RkP (B + 3) (B + 9)) M M2 := k3_trans k1 (k3_sub q4 (fun c' a j z => by simp only [RqP] at z; simp only [RkP]; omega))
    match hs2 : sX (tk b n) h (.inl i1), q1, q2, q3 with
    | .inr (e, p), q1, q2, q3 =>
      refine ⟨M2, e190 (w190_0 ⟨_, _, p1, fun z => absurd z n10, fun _ => ⟨b229, ?_⟩⟩), q2, k2, fun j hj => by cases hj⟩
      rw [x229, w229, e33]
      exact ⟨_, _, q1, fun z => absurd rfl z, fun _ => ⟨isB0, rfl, rfl⟩⟩
    | .inl i2, q1, q2, q3 =>
      obtain ⟨s1, s2, i3, s3, s4, s5⟩ := sX_pos hs2
      have hD : DgR M2 B (10 + vX (tk b n) h (.inl i1)) (6 - 5) := by
        intro j hj
        rw [show j = 0 by omega, show 6 - 5 - 1 - 0 = 0 from rfl, Nat.pow_zero, Nat.div_one, Nat.add_zero, q3 rfl]
        exact congrArg iN (by omega)
      obtain ⟨M', f1, f2, f3, f4⟩ := c190_run (X := X) (d := d) hX hT hh hB 5 (10 + vX (tk b n) h (.inl i1)) i2 M2 (by decide) q2 (by rw [q4 101 0 229 (by simp [RqP])]; exact w229) hD
      refine ⟨M', e190 (w190_0 ⟨_, _, p1, fun z => absurd z n10, fun _ => ⟨b229, ?_⟩⟩), f1, k3_trans k2 f2, f3⟩
      rw [x229, w229, e33]
      exact ⟨_, _, q1, fun _ => f4 _ ⟨rfl, rfl⟩, fun z => absurd z n10⟩
