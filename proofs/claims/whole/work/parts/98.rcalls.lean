/-! the reference's row of calls; the text of the calls, read by both -/
def ClV (M : Mem) (q y p e R k : Nat) : Prop := k ≤ 6 ∧ M.1 107 0 (9 * q) = iN y ∧ M.1 107 0 (9 * q + 1) = iN p ∧ M.1 107 0 (9 * q + 2) = iN e ∧ DgR M (9 * q) R k ∧ ∀ j, k ≤ j → j < 6 → M.1 107 0 (9 * q + 3 + j) = -1
theorem fdL_6 {t : Nat → Nat} {h : Nat} : ∀ {c R : Nat} {r : R0}, c ≤ 5 → (fdL t h c R r).2.2 ≤ 6
  | 0, R, .inl i, _ => Nat.le_refl _
  | c + 1, R, .inl i, hc => by
    unfold fdL
    by_cases h1 : t i < 10000
    · simp only [if_pos h1]
      by_cases h2 : t i < h
      · simp only [if_pos h2]
        exact fdL_6 (by omega)
      · simp only [if_neg h2]
        omega
    · simp only [if_neg h1]
      omega
  | 0, R, .inr z, _ => Nat.le_refl _
  | c + 1, R, .inr z, _ => by
    show 6 - (c + 1) ≤ 6
    omega
theorem c191 {X : Cx} {d : Nat} {M : Mem} {b : Nat → Nat} {n m i q h5 h6 h7 : Nat} (hX : StrOk X) (hT : Tok b n m) (h : RS M b n 1 i) (h15 : M.1 100 0 15 = iN q) (hq : q < 16) (hi : tk b n i = 10017) (e5 : M.1 101 0 229 = iN h5) (e6 : M.1 101 0 230 = iN h6) (e7 : M.1 101 0 231 = iN h7) (hh5 : h5 ≤ 10) (hh6 : h6 ≤ 8) (hh7 : h7 ≤ 12) : ∃ M', CC X (d + 11) 191 [vR 100 0] M (some (vI (okR0 (cl7 (tk b n) h5 h6 h7 (.inl (i + 1)))))) M' ∧ RT M' b n 1 (cl7 (tk b n) h5 h6 h7 (.inl (i + 1))) ∧ K3 (RkP (9 * q) (9 * q + 9)) M M' ∧ ∀ j, cl7 (tk b n) h5 h6 h7 (.inl (i + 1)) = .inl j → ClV M' q (vN (tk b n) 0 999 (.inl (i + 1))) (vX (tk b n) h7 (cl2 (tk b n) (.inl (i + 1)))) (vX (tk b n) h6 (cl6 (tk b n) h5 h7 (.inl (i + 1)))) (clF (tk b n) h5 h7 (.inl (i + 1))).2.1 (clF (tk b n) h5 h7 (.inl (i + 1))).2.2 := by
  have e9 : 9 * iN q = iN (9 * q) := by simp only [iN_lit, iN_mul]
  have e91 : iN (9 * q) + 1 = iN (9 * q + 1) := by simp only [iN_lit, iN_add]
  have e92 : iN (9 * q) + 2 = iN (9 * q + 2) := by simp only [iN_lit, iN_add]
  have x230 : ix 230 = 230 := ix_l (by decide)
  have x231 : ix 231 = 231 := ix_l (by decide)
  have b230 : inb 230 2129 := inb_of (n := 230) (by decide) (by decide)
  have b231 : inb 231 2129 := inb_of (n := 231) (by decide) (by decide)
  obtain ⟨M1, p1, p2, p3, p4⟩ := c189_s (X := X) (d := d) (q := 9 * q) (lo := 0) (hi := 999) (w := 10017) (r := 7) hX hT (by decide) h (by decide) (fun v => rt_wk (by omega)) (by omega) (by decide) (by decide)
  rw [show sE (tk b n) 10017 (.inl i) = .inl (i + 1) from if_pos hi] at p1 p2 p3
  have k1 : K3 (RkP (9 * q) (9 * q + 9)) M M1 := k3_sub p4 (Rk_sub (Nat.le_refl _) (by omega))
  unfold cl7 cl6 clF cl4 cl2
  match hs1 : sN (tk b n) 0 999 (.inl (i + 1)), p1, p2, p3 with
  | .inr (e, p), p1, p2, p3 =>
    refine ⟨M1, e191 (w191_0 ?_), p2, k1, fun j hj => noInl ⟨j, hj⟩⟩
    rw [h15, e9]
    exact ⟨_, _, p1, fun _ => ⟨isB0, rfl, rfl⟩, fun z => absurd rfl z⟩
  | .inl j1, p1, p2, p3 =>
    have w231 : M1.1 101 0 231 = iN h7 := by rw [k1 101 0 231 (by simp [RkP])]; exact e7
    obtain ⟨M2, q1, q2, q3, q4⟩ := c189_x (X := X) (d := d) (q := 9 * q + 1) (c := h7) (w := 10018) (r := 8) hX hT (by decide) (show RS M1 b n 1 j1 from p2) (by decide) (fun v => rt_wk (by omega)) (by omega) (by omega)
    have k2 : K3 (RkP (9 * q) (9 * q + 9)) M M2 := k3_trans k1 (k3_sub q4 (Rk_sub (by omega) (by omega)))
    match hs2 : sX (tk b n) h7 (sE (tk b n) 10018 (.inl j1)), q1, q2, q3 with
    | .inr (e, p), q1, q2, q3 =>
      refine ⟨M2, e191 (w191_0 ?_), q2, k2, fun j hj => noInl ⟨j, hj⟩⟩
      rw [h15, e9]
      refine ⟨_, _, p1, fun z => absurd z n10, fun _ => ⟨b231, ?_⟩⟩
      rw [x231, w231, e91]
      exact ⟨_, _, q1, fun _ => ⟨isB0, rfl, rfl⟩, fun z => absurd rfl z⟩
    | .inl j2, q1, q2, q3 =>
      have w229 : M2.1 101 0 229 = iN h5 := by rw [k2 101 0 229 (by simp [RkP])]; exact e5
      obtain ⟨M3, r1, r2, r3, r4⟩ := c190 (X := X) (d := d) (B := 9 * q) hX hT hh5 (by omega) (show RS M2 b n 1 j2 from q2) w229
      have k3' : K3 (RkP (9 * q) (9 * q + 9)) M M3 := k3_trans k2 (k3_sub r3 (Rk_sub (by omega) (by omega)))
      match hs3 : (fdA (tk b n) h5 (sE (tk b n) 10019 (.inl j2))).1, r1, r2, r4 with
      | .inr (e, p), r1, r2, r4 =>
        refine ⟨M3, e191 (w191_0 ?_), r2, k3', fun j hj => noInl ⟨j, hj⟩⟩
        rw [h15, e9]
        refine ⟨_, _, p1, fun z => absurd z n10, fun _ => ⟨b231, ?_⟩⟩
        rw [x231, w231, e91]
        exact ⟨_, _, q1, fun z => absurd z n10, fun _ => ⟨_, _, r1, fun _ => ⟨isB0, rfl, rfl⟩, fun z => absurd rfl z⟩⟩
      | .inl j3, r1, r2, r4 =>
        have w230 : M3.1 101 0 230 = iN h6 := by rw [k3' 101 0 230 (by simp [RkP])]; exact e6
        obtain ⟨M4, s1, s2, s3, s4⟩ := c189_x (X := X) (d := d) (q := 9 * q + 2) (c := h6) (w := 10020) (r := 10) hX hT (by decide) (show RS M3 b n 1 j3 from r2) (by decide) (fun v => rt_wk (by omega)) (by omega) (by omega)
        refine ⟨M4, e191 (w191_0 ?_), s2, k3_trans k3' (k3_sub s4 (Rk_sub (by omega) (by omega))), fun j hj => ?_⟩
        · rw [h15, e9]
          refine ⟨_, _, p1, fun z => absurd z n10, fun _ => ⟨b231, ?_⟩⟩
          rw [x231, w231, e91]
          refine ⟨_, _, q1, fun z => absurd z n10, fun _ => ⟨_, _, r1, fun z => absurd z n10, fun _ => ⟨b230, ?_⟩⟩⟩
          rw [x230, w230, e92]
          refine ⟨_, _, s1, fun z => ?_, fun z => ?_⟩
          · rw [z]
            exact ⟨isB0, rfl, rfl⟩
          · rcases okR0_b (r := sX (tk b n) h6 (sE (tk b n) 10020 (.inl j3))) with y | y
            · exact absurd y z
            · rw [y]
              exact ⟨isB1, rfl, rfl⟩
        · obtain ⟨t1, t2⟩ := r4 j3 rfl
          rw [hj] at s3
          refine ⟨fdL_6 (by decide), ?_, ?_, s3 rfl, fun j' hj' => ?_, fun j' h1 h2 => ?_⟩
          · rw [s4 107 0 _ (by simp only [RkP]; omega), r3 107 0 _ (by simp only [RkP]; omega), q4 107 0 _ (by simp only [RkP]; omega)]
            exact p3 rfl
          · rw [s4 107 0 _ (by simp only [RkP]; omega), r3 107 0 _ (by simp only [RkP]; omega)]
            exact q3 rfl
          · rw [s4 107 0 _ (by simp only [RkP]; omega)]
            exact t1 j' hj'
          · rw [s4 107 0 _ (by simp only [RkP]; omega)]
            exact t2 j' h1 h2
theorem c195_call {X : Cx} {d : Nat} {M : Mem} {b : Nat → Nat} {n m i q h5 h6 h7 : Nat} (hX : StrOk X) (hT : Tok b n m) (h : RS M b n 1 i) (h15 : M.1 100 0 15 = iN q) (hq : q < 16) (hi : tk b n i = 10017) (e5 : M.1 101 0 229 = iN h5) (e6 : M.1 101 0 230 = iN h6) (e7 : M.1 101 0 231 = iN h7) (hh5 : h5 ≤ 10) (hh6 : h6 ≤ 8) (hh7 : h7 ≤ 12) : ∃ M', CC X (d + 12) 195 [vR 100 0] M (some (vI (okR0 (clR (tk b n) h5 h6 h7 q i)))) M' ∧ RT M' b n 1 (clR (tk b n) h5 h6 h7 q i) ∧ K3 (RkP (9 * q) (9 * q + 9)) M M' ∧ ∀ j, clR (tk b n) h5 h6 h7 q i = .inl j → ClV M' q (vN (tk b n) 0 999 (.inl (i + 1))) (vX (tk b n) h7 (cl2 (tk b n) (.inl (i + 1)))) (vX (tk b n) h6 (cl6 (tk b n) h5 h7 (.inl (i + 1)))) (clF (tk b n) h5 h7 (.inl (i + 1))).2.1 (clF (tk b n) h5 h7 (.inl (i + 1))).2.2 := by
  have h40 : s40 (tk b n) q 10017 i = .inl (i + 1) := by
    unfold s40
    rw [if_pos hi, if_pos hq]
  have e12 : M.1 100 0 12 = 1 := h.2.1
  unfold clR
  rw [h40]
  obtain ⟨M1, p1, p2, p3, p4⟩ := c191 (X := X) (d := d) hX hT h h15 hq hi e5 e6 e7 hh5 hh6 hh7
  match hs : cl7 (tk b n) h5 h6 h7 (.inl (i + 1)), p1, p2, p4 with
  | .inr (e, p), p1, p2, p4 => exact ⟨M1, e195 (w195_0 ⟨fun z => absurd e12 z, fun _ => ⟨_, _, p1, fun _ => ⟨isB0, rfl, rfl⟩, fun z => absurd rfl z⟩⟩), p2, p3, fun j hj => noInl ⟨j, hj⟩⟩
  | .inl j, p1, p2, p4 =>
    obtain ⟨M2, q1, q2, q3⟩ := c177_s (X := X) (d := d + 2) (w := 20059) (r := 159) hX hT (by decide) (show RS M1 b n 1 j from p2) (by decide) (sg_w (c := 59) (by decide) (by decide) (by decide))
    refine ⟨M2, e195 (w195_0 ⟨fun z => absurd e12 z, fun _ => ⟨_, _, p1, fun z => absurd z n10, fun _ => ⟨_, _, q1, fun z => ?_, fun z => ?_⟩⟩⟩), q2, k3_trans p3 (k3_sub q3 (fun c a j z => by simp only [RqP] at z; simp only [RkP]; omega)), fun _ _ => ?_⟩
    · rw [z]
      exact ⟨isB0, rfl, rfl⟩
    · rcases okR0_b (r := sE (tk b n) 20059 (.inl j)) with y | y
      · exact absurd y z
      · rw [y]
        exact ⟨isB1, rfl, rfl⟩
    · have e107 : ∀ j, M2.1 107 0 j = M1.1 107 0 j := fun j => q3 107 0 j (fun z => z.2 rfl)
      obtain ⟨a0, a1, a2, a3, a4, a5⟩ := p4 j rfl
      exact ⟨a0, by rw [e107]; exact a1, by rw [e107]; exact a2, by rw [e107]; exact a3, fun j hj => by rw [e107]; exact a4 j hj, fun j x1 x2 => by rw [e107]; exact a5 j x1 x2⟩
def ClI (t : Nat → Nat) (h5 h6 h7 : Nat) (M : Mem) (P : List Nat) : Prop := M.1 20 0 5 = iN h5 ∧ M.1 20 0 6 = iN h6 ∧ M.1 20 0 7 = iN h7 ∧ M.1 50 1 0 = iN P.length ∧ ∀ (q i : Nat), P[q]? = some i → M.1 53 1 q = iN (vN t 0 999 (.inl (i + 1))) ∧ M.1 54 1 q = iN (vX t h7 (cl2 t (.inl (i + 1)))) ∧ M.1 55 1 q = iN (clF t h5 h7 (.inl (i + 1))).2.1 ∧ M.1 56 1 q = iN (vX t h6 (cl6 t h5 h7 (.inl (i + 1))))
def ClJ (t : Nat → Nat) (h5 h6 h7 : Nat) (M : Mem) (P : List Nat) : Prop := M.1 101 0 229 = iN h5 ∧ M.1 101 0 230 = iN h6 ∧ M.1 101 0 231 = iN h7 ∧ ∀ (q i : Nat), P[q]? = some i → ClV M q (vN t 0 999 (.inl (i + 1))) (vX t h7 (cl2 t (.inl (i + 1)))) (vX t h6 (cl6 t h5 h7 (.inl (i + 1)))) (clF t h5 h7 (.inl (i + 1))).2.1 (clF t h5 h7 (.inl (i + 1))).2.2
def ClK (t : Nat → Nat) (h5 h6 h7 : Nat) (P : List Nat) : Prop := ∀ (q i : Nat), P[q]? = some i → vX t h7 (cl2 t (.inl (i + 1))) < h7 ∧ vX t h6 (cl6 t h5 h7 (.inl (i + 1))) < h6 ∧ FdOk (clF t h5 h7 (.inl (i + 1))).2.1 (clF t h5 h7 (.inl (i + 1))).2.2 h5
theorem calls_all {X : Cx} {b : Nat → Nat} {n m h5 h6 h7 : Nat} (hX : StrOk X) (hT : Tok b n m) (hh5 : h5 ≤ 10) (hh6 : h6 ≤ 8) (hh7 : h7 ≤ 12) : ∃ r : Rr, (∀ (d : Nat) (M : Mem), CA M b n m 0 → ClI (tk b n) h5 h6 h7 M [] → ∃ M', K3 RdP M M' ∧ rrC (fun P' => CA M' b n m m ∧ ClI (tk b n) h5 h6 h7 M' P') (fun e p => DD M' b n m e p) r ∧ ∀ Q : Option Vl → Mem → Prop, Q (some (vI (rrR r))) M' → V X (d + 7) 24 46 [some (vR 3 0), some (vI (iN 1)), some (vI (iN 0))] [] M Q) ∧ (∀ (f : Nat) (M : Mem), RS M b n 1 0 → M.1 100 0 15 = iN 0 → ClJ (tk b n) h5 h6 h7 M [] → ∃ M', K3 RyP M M' ∧ rrC (fun P' => RS M' b n 1 m ∧ M'.1 100 0 15 = iN P'.length ∧ ClJ (tk b n) h5 h6 h7 M' P') (fun e p => Bad M' b n e p) r ∧ ∀ Q : Option Vl → Mem → Prop, Q (some (vI (rrB r))) M' → V X (f + 40) 196 36 [some (vR 100 0), some (vI 1)] [] M Q) ∧ rrC (fun P' => P'.length ≤ 16 ∧ ClK (tk b n) h5 h6 h7 P') (fun e _ => 1 ≤ e ∧ e ≤ 3) r := by
  refine rows_loop (w := 10017) (rtn := 7) (meth := 49) (RR := clR (tk b n) h5 h6 h7) (okP := ClK (tk b n) h5 h6 h7) hT (by decide) (by decide) (fun v => rt_wk (by omega)) (by decide) (by decide) (fun q i h => by unfold clR; rw [s40_n h]; rfl) (fun i h => by unfold clR; rw [s40_f h]; rfl) (fun q i hi => clR_m hT) (fun q i j h1 => ?_) (fun P i j k hj => ?_) (fun d i M P hP hC hI => ?_) (fun f i M P hP hi hS h15 hI => ?_) (fun M P x hI => ?_) (fun h1 h2 h3 h4 h5 => ?_) (fun h1 h2 h3 h4 => ?_) (m + 1) 0 [] (by omega) (Nat.zero_le _) (by decide) (fun q i hq => by cases hq)
  · have := clR_g (t := tk b n) (h5 := h5) (h6 := h6) (h7 := h7) (q := q) (i := i)
    rw [h1] at this
    exact this
  · intro q i' hq
    rcases get_snoc hq with ⟨hl, hq2⟩ | ⟨hl, hq2⟩
    · exact k q i' hq2
    · rw [hq2]
      exact clR_ok hh5 hj
  · obtain ⟨k1, k2, k3, k4, k5⟩ := hI
    obtain ⟨M', p1, p2, p3, p4⟩ := c49 (X := X) (d := d + 2) hT hC hP k1 k2 k3 hh5 hh6 hh7
    refine ⟨M', p1, p2, k3_sub p3 Pk_r, fun j hj => ?_⟩
    obtain ⟨b1, b2, b3, b4, b5⟩ := p4 j hj
    refine ⟨by rw [p3 20 0 5 (by simp [PkP])]; exact k1, by rw [p3 20 0 6 (by simp [PkP])]; exact k2, by rw [p3 20 0 7 (by simp [PkP])]; exact k3, by rw [b5, List.length_append]; rfl, fun q i' hq => ?_⟩
    rcases get_snoc hq with ⟨hl, hq2⟩ | ⟨hl, hq2⟩
    · rw [p3 53 1 q (by simp only [PkP]; omega), p3 54 1 q (by simp only [PkP]; omega), p3 55 1 q (by simp only [PkP]; omega), p3 56 1 q (by simp only [PkP]; omega)]
      exact k5 q i' hq2
    · rw [hl, hq2]
      exact ⟨b1, b2, b3, b4⟩
  · obtain ⟨k1, k2, k3, k4⟩ := hI
    obtain ⟨M', p1, p2, p3, p4⟩ := c195_call (X := X) (d := f + 27) hX hT hS h15 hP hi k1 k2 k3 hh5 hh6 hh7
    refine ⟨M', p1, p2, k3_sub p3 Rk_q, fun j hj => ⟨by rw [p3 101 0 229 (by simp [RkP])]; exact k1, by rw [p3 101 0 230 (by simp [RkP])]; exact k2, by rw [p3 101 0 231 (by simp [RkP])]; exact k3, fun q i' hq => ?_⟩⟩
    rcases get_snoc hq with ⟨hl, hq2⟩ | ⟨hl, hq2⟩
    · obtain ⟨c0, c1, c2, c3, c4, c5⟩ := k4 q i' hq2
      have e107 : ∀ j, j < 9 * P.length → M'.1 107 0 j = M.1 107 0 j := fun j hj => p3 107 0 j (by simp only [RkP]; omega)
      refine ⟨c0, by rw [e107 _ (by omega)]; exact c1, by rw [e107 _ (by omega)]; exact c2, by rw [e107 _ (by omega)]; exact c3, fun j' hj' => by rw [e107 _ (by omega)]; exact c4 j' hj', fun j' y1 y2 => by rw [e107 _ (by omega)]; exact c5 j' y1 y2⟩
    · rw [hl, hq2]
      exact p4 j hj
  · exact ⟨by rw [st_ne3 (fun z => absurd z.1 (by decide))]; exact hI.1, by rw [st_ne3 (fun z => absurd z.1 (by decide))]; exact hI.2.1, by rw [st_ne3 (fun z => absurd z.1 (by decide))]; exact hI.2.2.1, fun q i hq => by
      obtain ⟨c0, c1, c2, c3, c4, c5⟩ := hI.2.2.2 q i hq
      exact ⟨c0, by rw [st_ne3 (fun z => absurd z.1 (by decide))]; exact c1, by rw [st_ne3 (fun z => absurd z.1 (by decide))]; exact c2, by rw [st_ne3 (fun z => absurd z.1 (by decide))]; exact c3, fun j hj => by rw [st_ne3 (fun z => absurd z.1 (by decide))]; exact c4 j hj, fun j x1 x2 => by rw [st_ne3 (fun z => absurd z.1 (by decide))]; exact c5 j x1 x2⟩⟩
  · exact w24_46 ⟨fun z => absurd z h1, fun _ => ⟨fun z => absurd h2 z, fun _ => ⟨_, _, h3, fun z => absurd rfl z, fun _ => ⟨fun _ => ⟨fun z => absurd rfl z, fun _ => ⟨_, h4, h5⟩⟩, fun z => absurd z (by decide)⟩⟩⟩⟩
  · exact w196_36 ⟨fun z => absurd z n10, fun _ => ⟨fun z => absurd z h2, fun _ => ⟨fun _ => ⟨h3, h4⟩, fun z => absurd z (by rw [h1]; decide)⟩⟩⟩
