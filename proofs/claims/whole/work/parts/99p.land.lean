/-! the land's ops keep the invariant -/
theorem Inv.land {B : Nat} {M M2 : Mem} (h : Inv B M) (k : K3 LdP M M2) (hT : TC M2 0 = TM M2) (hv : ∀ n5 n6 n7, VTn B (TM M) n5 n6 n7 → (∃ k : Nat, k < 2 ^ n6 ∧ M.1 101 0 6 = iN k) → ∃ m5 m6 m7, n5 ≤ m5 ∧ n6 ≤ m6 ∧ n7 ≤ m7 ∧ VTn B (TM M2) m5 m6 m7 ∧ ∃ k : Nat, k < 2 ^ m6 ∧ M2.1 101 0 6 = iN k) (h8 : M2.1 8 0 0 = 0) (h4 : M2.1 100 0 4 = 0) : Inv B M2 := by
  have e : ∀ c a j, ¬ ((c = 8 ∧ a = 0 ∧ j = 0) ∨ (c = 100 ∧ a = 0 ∧ j = 4) ∨ (a = 0 ∧ 20 ≤ c ∧ c < 30) ∨ (c = 101 ∧ a = 0 ∧ j ≠ 5 ∧ (j < 232 ∨ (241 ≤ j ∧ j < 287)))) → M2.1 c a j = M.1 c a j := fun c a j hc => k c a j hc
  have ew : ∀ j, ¬ (j ≠ 5 ∧ (j < 232 ∨ (241 ≤ j ∧ j < 287))) → M2.1 101 0 j = M.1 101 0 j := fun j hj => e 101 0 j (by omega)
  refine h.gen (Nat.le_refl _) (fun c a j z => k c a j (GFr.no (P := LdP) (fun j _ => by simp only [LdP]; omega) (fun j => by simp only [LdP]; omega) (fun j => by simp only [LdP]; omega) (fun j _ => by simp only [LdP]; omega) (fun a _ => by simp only [LdP]; omega) (by simp only [LdP]; omega) (by simp only [LdP]; omega) (fun j => by simp only [LdP]; omega) (fun c j _ _ => by simp only [LdP]; omega) (fun c a j _ _ _ _ => by simp only [LdP]; omega) (fun c j _ => by simp only [LdP]; omega) (fun j _ => by simp only [LdP]; omega) z)) (fun n nx lc n5 n6 n7 g1 g2 => ?_) (fun t1 t2 t3 t4 t5 g => ?_)
  · obtain ⟨m5, m6, m7, c5, c6, c7, c8, c9⟩ := hv n5 n6 n7 g1.2.1 g1.2.2.1
    obtain ⟨b1, b2, b3, b4⟩ := g1.2.2.2
    exact ⟨0, nx, lc, m5, m6, m7, c5, c6, c7, ⟨hT, c8, c9, b1, by rw [e 30 0 0 (by omega)]; exact b2, by rw [ew 5 (by omega)]; exact b3, fun j hj => by rw [e 31 0 j (by omega), ew _ (by omega)]; exact b4 j hj⟩, PastJ.none g2.2.2.1 h8 h4 (by rw [e 8 0 1 (by omega)]; exact g2.2.2.2.2.2.2.2.1)⟩
  · exact ⟨t1, t2, t3, t4, t5, g.cp ⟨e 80 0 0 (by omega), fun j _ => ⟨e 81 0 j (by omega), e 82 0 j (by omega)⟩⟩ ⟨e 83 0 0 (by omega), fun j _ => ⟨e 84 0 j (by omega), e 85 0 j (by omega)⟩⟩ ⟨e 86 0 0 (by omega), fun j _ => ⟨e 87 0 j (by omega), e 88 0 j (by omega)⟩⟩ ⟨e 89 0 0 (by omega), fun j _ => ⟨e 90 0 j (by omega), e 91 0 j (by omega)⟩⟩ ⟨e 92 0 0 (by omega), fun j _ => ⟨e 93 0 j (by omega), e 94 0 j (by omega)⟩⟩ (fun j _ => e 71 0 j (by omega)) (fun j _ => e 72 0 j (by omega)) (fun k hk => ew k (by omega))⟩
theorem VTn.field {B n5 n6 n7 : Nat} {T : Ld} {u : Int32} {l : Nat} (h : VTn B T n5 n6 n7) (hn : n5 < 10) (hl : l ≤ 9999) : VTn B (up2 (up2 (up2 T 21 n5 u) 22 n5 (iN l)) 20 5 (iN (n5 + 1))) (n5 + 1) n6 n7 := by
  obtain ⟨h1, h2, h3, h4, h5, h6, h7, h8, h9, h10, h11, h12⟩ := h
  have o : ∀ c j, c ≠ 21 → c ≠ 22 → ¬ (c = 20 ∧ j = 5) → up2 (up2 (up2 T 21 n5 u) 22 n5 (iN l)) 20 5 (iN (n5 + 1)) c j = T c j := fun c j q1 q2 q3 => by rw [up2_ne q3, up2_ne (by omega), up2_ne (by omega)]
  refine ⟨by omega, h2, h3, up2_at, ?_, ?_, ?_, fun g hg => ?_, fun q hq => ?_, fun q hq1 hq2 g hg => ?_, fun e2 g he2 hg => ?_, fun e2 g he2 hg hg2 => ?_⟩
  · rw [o _ _ (by omega) (by omega) (by omega)]; exact h5
  · rw [o _ _ (by omega) (by omega) (by omega)]; exact h6
  · rw [o _ _ (by omega) (by omega) (by omega)]; exact h7
  · rw [up2_ne (by omega)]
    by_cases hgf : g = n5
    · rw [hgf, up2_at]
      exact ⟨l, hl, rfl⟩
    · rw [up2_ne (by omega), up2_ne (by omega)]; exact h8 g hg
  · obtain ⟨hm, s, b, c1, c2, c3, c4, c5, d1, d2, d3⟩ := h9 q hq
    exact ⟨hm, s, b, c1, by rw [o _ _ (by omega) (by omega) (by omega)]; exact c2, c3, c4, by rw [o _ _ (by omega) (by omega) (by omega)]; exact c5, fun g hg => by rw [o _ _ (by omega) (by omega) (by omega)]; exact d1 g hg, fun f hf => d2 f (by omega), d3⟩
  · rw [o _ _ (by omega) (by omega) (by omega)]; exact h10 q hq1 hq2 g hg
  · rw [o _ _ (by omega) (by omega) (by omega)]; exact h11 e2 g he2 hg
  · rw [o _ _ (by omega) (by omega) (by omega)]; exact h12 e2 g he2 (by omega) hg2
theorem VTn.door {B n5 n6 n7 : Nat} {T : Ld} {u : Int32} (h : VTn B T n5 n6 n7) (hn : n6 < 8) : VTn B (up2 (up2 T 23 n6 u) 20 6 (iN (n6 + 1))) n5 (n6 + 1) n7 := by
  obtain ⟨h1, h2, h3, h4, h5, h6, h7, h8, h9, h10, h11, h12⟩ := h
  have o : ∀ c j, c ≠ 23 → ¬ (c = 20 ∧ j = 6) → up2 (up2 T 23 n6 u) 20 6 (iN (n6 + 1)) c j = T c j := fun c j q1 q3 => by rw [up2_ne q3, up2_ne (by omega)]
  refine ⟨h1, by omega, h3, ?_, up2_at, ?_, ?_, fun g hg => ?_, fun q hq => ?_, fun q hq1 hq2 g hg => ?_, fun e2 g he2 hg => ?_, fun e2 g he2 hg hg2 => ?_⟩
  · rw [o _ _ (by omega) (by omega)]; exact h4
  · rw [o _ _ (by omega) (by omega)]; exact h6
  · rw [o _ _ (by omega) (by omega)]; exact h7
  · rw [o _ _ (by omega) (by omega)]; exact h8 g hg
  · obtain ⟨hm, s, b, c1, c2, c3, c4, c5, d1, d2, d3⟩ := h9 q hq
    exact ⟨hm, s, b, by omega, by rw [o _ _ (by omega) (by omega)]; exact c2, c3, c4, by rw [o _ _ (by omega) (by omega)]; exact c5, fun g hg => by rw [o _ _ (by omega) (by omega)]; exact d1 g hg, d2, d3⟩
  · rw [o _ _ (by omega) (by omega)]; exact h10 q hq1 hq2 g hg
  · rw [o _ _ (by omega) (by omega)]; exact h11 e2 g he2 hg
  · rw [o _ _ (by omega) (by omega)]; exact h12 e2 g he2 hg hg2
theorem VTn.person {B n5 n6 n7 : Nat} {T : Ld} {q : Int32} {u s : Nat} (h : VTn B T n5 n6 n7) (hn : n7 < 12) (hu : u < n6) (hs : 1 ≤ s) (hs2 : s ≤ 9) : VTn B (up2 (up2 (up2 (up2 T 25 n7 (iN u)) 26 n7 (iN s)) 27 n7 q) 20 7 (iN (n7 + 1))) n5 n6 (n7 + 1) := by
  obtain ⟨h1, h2, h3, h4, h5, h6, h7, h8, h9, h10, h11, h12⟩ := h
  have o : ∀ c j, ¬ (25 ≤ c ∧ c ≤ 27 ∧ j = n7) → ¬ (c = 20 ∧ j = 7) → up2 (up2 (up2 (up2 T 25 n7 (iN u)) 26 n7 (iN s)) 27 n7 q) 20 7 (iN (n7 + 1)) c j = T c j := fun c j q1 q3 => by rw [up2_ne q3, up2_ne (by omega), up2_ne (by omega), up2_ne (by omega)]
  refine ⟨h1, h2, by omega, ?_, ?_, up2_at, ?_, fun g hg => ?_, fun q hq => ?_, fun q hq1 hq2 g hg => ?_, fun e2 g he2 hg => ?_, fun e2 g he2 hg hg2 => ?_⟩
  · rw [o _ _ (by omega) (by omega)]; exact h4
  · rw [o _ _ (by omega) (by omega)]; exact h5
  · rw [o _ _ (by omega) (by omega)]; exact h7
  · rw [o _ _ (by omega) (by omega)]; exact h8 g hg
  · by_cases hq7 : q = n7
    · subst hq7
      refine ⟨u, s, fun _ => 0, hu, ?_, hs, hs2, ?_, fun g hg => ?_, fun _ _ _ => rfl, ?_⟩
      · rw [up2_ne (by omega), up2_ne (by omega), up2_ne (by omega), up2_at]
      · rw [up2_ne (by omega), up2_ne (by omega), up2_at]
      · rw [o _ _ (by omega) (by omega)]; exact h10 q (Nat.le_refl _) hn g hg
      · exact Nat.zero_le _
    · obtain ⟨hm, s, b, c1, c2, c3, c4, c5, d1, d2, d3⟩ := h9 q (by omega)
      exact ⟨hm, s, b, c1, by rw [o _ _ (by omega) (by omega)]; exact c2, c3, c4, by rw [o _ _ (by omega) (by omega)]; exact c5, fun g hg => by rw [o _ _ (by omega) (by omega)]; exact d1 g hg, d2, d3⟩
  · rw [o _ _ (by omega) (by omega)]; exact h10 q (by omega) hq2 g hg
  · rw [o _ _ (by omega) (by omega)]; exact h11 e2 g he2 hg
  · rw [o _ _ (by omega) (by omega)]; exact h12 e2 g he2 hg hg2
theorem s98 {X : Cx} {B : Nat} {M : Mem} {v : Int32} (h : Inv B M) : Sm X 98 160 [vI v] B M := by
  obtain ⟨x, M1, M2, p1, p2, p3, p4, p5, p6⟩ := op98 (X := X) (d := 39) (M := M) (v := v) h.landI
  have eT : TM M2 = up2 (TM M) 20 0 (M2.1 101 0 4) := by
    rw [← TM_20_0]
    refine TW_ext (fun k hk => ?_)
    by_cases hk4 : k = 4
    · rw [hk4, st_at]
    · rw [st_ne3 (by omega), p6 101 0 k (by simp only [fgt]; omega)]
  refine ⟨x, M1, M2, p1, p2, (h.land (k3_sub p6 (fun c a j z => by simp only [fgt] at z; simp only [LdP]; omega)) p3.1 (fun n5 n6 n7 g1 g2 => ⟨n5, n6, n7, Nat.le_refl _, Nat.le_refl _, Nat.le_refl _, ?_, ?_⟩) p4 p5).up⟩
  · rw [eT]
    exact g1.off (by omega)
  · rw [p6 101 0 6 (by simp only [fgt]; omega)]
    exact g2
theorem s99 {X : Cx} {B : Nat} {M : Mem} {u v : Int32} (h : Inv B M) : Sm X 99 162 [vI u, vI v] B M := by
  obtain ⟨x, M1, M2, p1, p2, p3⟩ := op99 (X := X) (d := 39) (M := M) (u := u) (v := v) h.landI
  refine ⟨x, M1, M2, p1, p2, ?_⟩
  rcases p3 with rfl | ⟨n, q1, q2, q3, q4, q5, q6, q7, q8, q9, q10⟩
  · exact h.up
  · obtain ⟨l, rfl, hl⟩ := inR_iN (hi := 9999) (by decide) q4
    refine (h.land (k3_sub q10 (fun c a j z => by simp only [fgt] at z; simp only [LdP]; omega)) q5 (fun n5 n6 n7 g1 g2 => ?_) q8 q9).up
    have b5 := g1.1
    have e5 : n = n5 := (iN_inj (by omega) (by omega)).mp (q2.symm.trans g1.2.2.2.1)
    subst e5
    exact ⟨n + 1, n6, n7, by omega, Nat.le_refl _, Nat.le_refl _, by rw [q6]; exact g1.field q1 hl, by rw [q7]; exact g2⟩
theorem s100 {X : Cx} {B : Nat} {M : Mem} {v : Int32} (h : Inv B M) : Sm X 100 163 [vI v] B M := by
  obtain ⟨x, M1, M2, p1, p2, p3⟩ := op100 (X := X) (d := 39) (M := M) (v := v) h.landI
  refine ⟨x, M1, M2, p1, p2, ?_⟩
  rcases p3 with rfl | ⟨n, q1, q2, q5, q6, q7, q8, q9, q10⟩
  · exact h.up
  · refine (h.land q10 q5 (fun n5 n6 n7 g1 g2 => ?_) q8 q9).up
    have b5 := g1.2.1
    have e5 : n = n6 := (iN_inj (by omega) (by omega)).mp (q2.symm.trans g1.2.2.2.2.1)
    subst e5
    exact ⟨n5, n + 1, n7, Nat.le_refl _, by omega, Nat.le_refl _, by rw [q6]; exact g1.door q1, q7⟩
theorem s101 {X : Cx} {B : Nat} {M : Mem} {u v q : Int32} (h : Inv B M) : Sm X 101 164 [vI u, vI v, vI q] B M := by
  obtain ⟨x, M1, M2, p1, p2, p3⟩ := op101 (X := X) (d := 38) (M := M) (u := u) (v := v) (q := q) h.landI
  refine ⟨x, M1, M2, p1, p2, ?_⟩
  rcases p3 with rfl | ⟨n, q1, q2, r1, r2, r3, q5, q6, q7, q8, q9, q10⟩
  · exact h.up
  · refine (h.land q10 q5 (fun n5 n6 n7 g1 g2 => ?_) q8 q9).up
    have b7 := g1.2.2.1
    have b6 := g1.2.1
    have e5 : n = n7 := (iN_inj (by omega) (by omega)).mp (q2.symm.trans g1.2.2.2.2.2.1)
    subst e5
    have z6 : TM M 20 6 = iN n6 := g1.2.2.2.2.1
    rw [z6] at r1
    obtain ⟨u', rfl, hu⟩ := has_lt (k := 8) b6 (by decide) r1
    obtain ⟨s, hs, hs1, hs2⟩ : ∃ s : Nat, v = iN s ∧ 1 ≤ s ∧ s ≤ 9 := by
      have hh : inR v 0 (iN 9) = true := by
        unfold inR at r2 ⊢
        simp only [Bool.and_eq_true, decide_eq_true_eq] at r2 ⊢
        exact ⟨by grind, r2.2⟩
      obtain ⟨s, rfl, hs⟩ := inR_iN (hi := 9) (by decide) hh
      refine ⟨s, rfl, ?_, hs⟩
      have := inR_d (c := s) (lo := 1) (hi := 9) (by omega) (by decide) (by decide)
      rw [show inR (iN s) (iN 1) (iN 9) = true from r2] at this
      simp only [eq_comm (a := true), Bool.and_eq_true, decide_eq_true_eq] at this
      exact this.1
    subst hs
    exact ⟨n5, n6, n + 1, Nat.le_refl _, Nat.le_refl _, by omega, by rw [q6]; exact g1.person q1 hu hs1 hs2, by rw [q7]; exact g2⟩
theorem s102 {X : Cx} {B : Nat} {M : Mem} {u v q : Int32} (h : Inv B M) : Sm X 102 165 [vI u, vI v, vI q] B M := by
  obtain ⟨x, M1, M2, p1, p2, p3⟩ := op102 (X := X) (d := 38) (M := M) (u := u) (v := v) (q := q) h.landI
  refine ⟨x, M1, M2, p1, p2, ?_⟩
  rcases p3 with rfl | ⟨c, j, r1, q5, q6, q7, q8, q9, q10⟩
  · exact h.up
  · refine (h.land q10 q5 (fun n5 n6 n7 g1 g2 => ⟨n5, n6, n7, Nat.le_refl _, Nat.le_refl _, Nat.le_refl _, ?_, by rw [q7]; exact g2⟩) q8 q9).up
    rw [q6]
    rcases r1 with ⟨rfl, rfl⟩ | ⟨rfl, -, r2, -⟩ | ⟨rfl, -⟩
    · exact g1.off (by omega)
    · obtain ⟨l, rfl, hl⟩ := inR_iN (hi := 9999) (by decide) r2
      exact g1.land hl
    · exact g1.off (by omega)
/-! walking -/
abbrev WkP : Nat → Nat → Nat → Prop := fun c a j => (c = 12 ∨ c = 47 ∨ c = 103 ∨ c = 104 ∨ c = 109 ∨ c = 110 ∨ c = 111) ∨ (20 ≤ c ∧ c < 32 ∧ a < 8 ∧ a ≠ 1) ∨ (c = 11 ∧ j = 5) ∨ (c = 8 ∧ a = 0 ∧ j < 2) ∨ (c = 100 ∧ (j = 4 ∨ j = 26 ∨ j = 28 ∨ j = 29)) ∨ (c = 101 ∧ a = 0 ∧ (j < 229 ∨ (645 ≤ j ∧ j < 1245)))
theorem Inv.walk {B B2 : Nat} {M M2 : Mem} (h : Inv B M) (hB : B ≤ B2) (hw : WalkR B2 M M2) : Inv B2 M2 := by
  obtain ⟨n, nx, lc, w1, w2, k⟩ := hw
  have e : ∀ c a j, ¬ WkP c a j → M2.1 c a j = M.1 c a j := fun c a j hc => k c a j (fun z => hc (by simp only [OpP, scrC, Bool.or_eq_true, beq_iff_eq, or_assoc] at z; simp only [WkP, or_assoc]; exact z))
  have ew : ∀ j, ¬ (j < 229 ∨ (645 ≤ j ∧ j < 1245)) → M2.1 101 0 j = M.1 101 0 j := fun j hj => e 101 0 j (by simp only [WkP]; omega)
  refine h.gen hB (fun c a j z => e c a j (GFr.no (P := WkP) (fun j _ => by simp only [WkP]; omega) (fun j => by simp only [WkP]; omega) (fun j => by simp only [WkP]; omega) (fun j _ => by simp only [WkP]; omega) (fun a _ => by simp only [WkP]; omega) (by simp only [WkP]; omega) (by simp only [WkP]; omega) (fun j => by simp only [WkP]; omega) (fun c j _ _ => by simp only [WkP]; omega) (fun c a j _ _ _ _ => by simp only [WkP]; omega) (fun c j _ => by simp only [WkP]; omega) (fun j _ => by simp only [WkP]; omega) z)) (fun n0 nx0 lc0 n5 n6 n7 g1 g2 => ?_) (fun t1 t2 t3 t4 t5 g => ?_)
  · obtain ⟨m5, m6, m7, l1⟩ := w1.lds
    obtain ⟨b5, b6, b7, x5, x6, x7⟩ := g1.cntW
    obtain ⟨d5, d6, d7, y5, y6, y7⟩ := l1.cntW
    have u5 : n5 = m5 := (iN_inj (by omega) (by omega)).mp (by rw [← x5, ← y5, ew 229 (by omega)])
    have u6 : n6 = m6 := (iN_inj (by omega) (by omega)).mp (by rw [← x6, ← y6, ew 230 (by omega)])
    have u7 : n7 = m7 := (iN_inj (by omega) (by omega)).mp (by rw [← x7, ← y7, ew 231 (by omega)])
    subst u5 u6 u7
    exact ⟨n, nx, lc, n5, n6, n7, Nat.le_refl _, Nat.le_refl _, Nat.le_refl _, l1, w2⟩
  · exact ⟨t1, t2, t3, t4, t5, g.cp ⟨e 80 0 0 (by simp only [WkP]; omega), fun j _ => ⟨e 81 0 j (by simp only [WkP]; omega), e 82 0 j (by simp only [WkP]; omega)⟩⟩ ⟨e 83 0 0 (by simp only [WkP]; omega), fun j _ => ⟨e 84 0 j (by simp only [WkP]; omega), e 85 0 j (by simp only [WkP]; omega)⟩⟩ ⟨e 86 0 0 (by simp only [WkP]; omega), fun j _ => ⟨e 87 0 j (by simp only [WkP]; omega), e 88 0 j (by simp only [WkP]; omega)⟩⟩ ⟨e 89 0 0 (by simp only [WkP]; omega), fun j _ => ⟨e 90 0 j (by simp only [WkP]; omega), e 91 0 j (by simp only [WkP]; omega)⟩⟩ ⟨e 92 0 0 (by simp only [WkP]; omega), fun j _ => ⟨e 93 0 j (by simp only [WkP]; omega), e 94 0 j (by simp only [WkP]; omega)⟩⟩ (fun j _ => e 71 0 j (by simp only [WkP]; omega)) (fun j _ => e 72 0 j (by simp only [WkP]; omega)) (fun k hk => ew k (by omega))⟩
theorem s103 {X : Cx} {B : Nat} {M : Mem} {u v q : Int32} (h : Inv B M) : Sm X 103 218 [vI u, vI v, vI q] B M := by
  have h0 := h
  obtain ⟨n, nx, lc, L, C, S, n5, n6, n7, t1, t2, t3, t4, t5, h1, h2, h3, h4, h5, -, -, -, h9, -⟩ := h0
  obtain ⟨x, M1, M2, p1, p2, p3⟩ := op103 (X := X) (d := 33) (M := M) (u := u) (v := v) (q := q) h1.wld h5 h2.1 h2.2.1 h2.2.2 h9
  exact ⟨x, M1, M2, p1, p2, (h.walk (by omega) p3).mono (by omega)⟩
theorem s104 {X : Cx} {B : Nat} {M : Mem} {w u : Int32} (hB : B < 1073741824) (h : Inv B M) : Sm X 104 222 [vI w, vI u] B M := by
  have h0 := h
  obtain ⟨n, nx, lc, L, C, S, n5, n6, n7, t1, t2, t3, t4, t5, h1, h2, h3, h4, h5, -⟩ := h0
  obtain ⟨x, M1, M2, p1, p2, p3⟩ := op104 (X := X) (d := 36) (M := M) (w := w) (u := u) hB h1.wld h5
  exact ⟨x, M1, M2, p1, p2, (h.walk (by omega) p3).mono (by omega)⟩
theorem s143 {X : Cx} {B : Nat} {M : Mem} (h : Inv B M) : Sm X 143 212 [] B M := by
  have h0 := h
  obtain ⟨n, nx, lc, L, C, S, n5, n6, n7, t1, t2, t3, t4, t5, h1, h2, h3, h4, h5, -⟩ := h0
  obtain ⟨x, M1, M2, p1, p2, p3⟩ := op143 (X := X) (d := 37) (M := M) h1.wld h5
  exact ⟨x, M1, M2, p1, p2, (h.walk (by omega) p3).mono (by omega)⟩
theorem s106 {X : Cx} {B : Nat} {M : Mem} {v : Int32} (h : Inv B M) : Sm X 106 227 [vI v] B M := by
  have h0 := h
  obtain ⟨n, nx, lc, L, C, S, n5, n6, n7, t1, t2, t3, t4, t5, h1, h2, h3, h4, h5, -, -, -, h9, -⟩ := h0
  obtain ⟨x, M1, M2, p1, p2, p3⟩ := op106 (X := X) (d := 32) (M := M) (v := v) h1.wld h5 h1.2.1 h2.1 h2.2.1 h2.2.2 h3.1 h3.2.1 h3.2.2.1 h3.2.2.2.1 h3.2.2.2.2.1 h3.2.2.2.2.2.1 h9
  exact ⟨x, M1, M2, p1, p2, h.walk (by omega) p3⟩
/-! the image -/
theorem s144 {X : Cx} {B : Nat} {M : Mem} {v : Int32} (h : Inv B M) : Sm X 144 272 [vI v] B M := by
  have h0 := h
  obtain ⟨n, nx, lc, L, C, S, n5, n6, n7, t1, t2, t3, t4, t5, h1, h2, h3, h4, h5, -, -, -, -, -, -, h12⟩ := h0
  by_cases hv : v = 0
  · subst hv
    rcases h12 with ⟨y1, y2⟩ | ⟨y1, y2, y3⟩
    · obtain ⟨p1, p2⟩ := op144_n (X := X) (d := 37) y1 y2
      exact ⟨0, M, M, p1, p2, h.up⟩
    · obtain ⟨M1, M2, p1, p2, p3, p4, p5, k, p6⟩ := op144_b (X := X) (d := 37) y1 y2 y3
      obtain ⟨lc', m5, m6, m7, L', C', S', s1, s2, s3, s4, s5, z1, z2, z3, z4⟩ := p3
      have e : ∀ c a j, ¬ ((c = 8 ∧ a = 0 ∧ j = 0) ∨ (c = 100 ∧ a = 0 ∧ (j = 4 ∨ j = 5)) ∨ (c = 101 ∧ a = 0) ∨ (a = 0 ∧ 20 ≤ c ∧ c < 32) ∨ (a = 0 ∧ 40 ≤ c ∧ c < 60) ∨ (a = 0 ∧ 71 ≤ c ∧ c < 95)) → M2.1 c a j = M.1 c a j := fun c a j hc => k c a j hc
      have hi : ImgR B M2 := by
        have h12' : ImgR B M := Or.inr ⟨y1, y2, y3⟩
        refine Or.inr ⟨by rw [e 10 0 0 (by omega)]; exact y1, p6, ?_⟩
        have e8 : ∀ c j, 20 ≤ c → c < 32 → M2.1 c 8 j = M.1 c 8 j := fun c j x y => e c 8 j (by omega)
        have e2 : ∀ c j, 40 ≤ c → c < 60 → M2.1 c 2 j = M.1 c 2 j := fun c j x y => e c 2 j (by omega)
        have e1 : ∀ c j, 71 ≤ c → c < 95 → M2.1 c 1 j = M.1 c 1 j := fun c j x y => e c 1 j (by omega)
        obtain ⟨lc', m5, m6, m7, L', C', S', s1, s2, s3, s4, s5, z1, z2, z3, z4⟩ := y3
        rw [show M2.1 102 0 = M.1 102 0 from funext fun j => e 102 0 j (by omega)]
        exact ⟨lc', m5, m6, m7, L', C', S', s1, s2, s3, s4, s5, z1.cp (Nat.le_refl _) (TC_eq (fun c j x y => e8 c j (by omega) (by omega))) (e8 30 0 (by omega) (by omega)) (fun j _ => e8 31 j (by omega) (by omega)) (fun _ _ => rfl), z2.cp (e2 40 0 (by omega) (by omega)) (fun c j _ _ _ => e2 c j (by omega) (by omega)) (fun j _ => e2 46 j (by omega) (by omega)) (fun _ _ => rfl), z3.cp (fun j _ => e2 50 j (by omega) (by omega)) (fun c j _ _ _ => e2 c j (by omega) (by omega)) (fun j _ => e2 59 j (by omega) (by omega)) (fun _ _ => rfl), z4.cp ⟨e1 80 0 (by omega) (by omega), fun j _ => ⟨e1 81 j (by omega) (by omega), e1 82 j (by omega) (by omega)⟩⟩ ⟨e1 83 0 (by omega) (by omega), fun j _ => ⟨e1 84 j (by omega) (by omega), e1 85 j (by omega) (by omega)⟩⟩ ⟨e1 86 0 (by omega) (by omega), fun j _ => ⟨e1 87 j (by omega) (by omega), e1 88 j (by omega) (by omega)⟩⟩ ⟨e1 89 0 (by omega) (by omega), fun j _ => ⟨e1 90 j (by omega) (by omega), e1 91 j (by omega) (by omega)⟩⟩ ⟨e1 92 0 (by omega) (by omega), fun j _ => ⟨e1 93 j (by omega) (by omega), e1 94 j (by omega) (by omega)⟩⟩ (fun j _ => e1 71 j (by omega) (by omega)) (fun j _ => e1 72 j (by omega) (by omega)) (fun _ _ => rfl)⟩
      exact ⟨1, M1, M2, p1, p2, (h.mk3 (fun c a j z => e c a j (by rcases z with ⟨rfl, rfl, z⟩ | ⟨rfl, rfl⟩ | ⟨rfl, rfl⟩ | ⟨rfl, rfl, z⟩ | ⟨rfl, z, rfl⟩ | ⟨rfl, rfl, rfl⟩ <;> omega)) ⟨0, nx, lc', L', C', S', m5, m6, m7, s1, s2, s3, s4, s5, z1, z2, z3, z4, PastJ.none h5.2.2.1 p4 p5 (by rw [e 8 0 1 (by omega)]; exact h5.2.2.2.2.2.2.2.1)⟩ hi).up⟩
  · obtain ⟨M1, M2, p1, p2, p3, p4, p5, k⟩ := op144_t (X := X) (d := 37) hv ⟨lc, n5, n6, n7, L, C, S, t1, t2, t3, t4, t5, h1, h2, h3, h4⟩
    have e : ∀ c a j, ¬ ((c = 10 ∧ a = 0 ∧ j = 0) ∨ (c = 100 ∧ a = 0 ∧ j = 5) ∨ (c = 102 ∧ a = 0) ∨ (a = 8 ∧ 20 ≤ c ∧ c < 32) ∨ (a = 2 ∧ 40 ≤ c ∧ c < 60) ∨ (a = 1 ∧ 71 ≤ c ∧ c < 95)) → M2.1 c a j = M.1 c a j := fun c a j hc => k c a j hc
    have e101 : M2.1 101 0 = M.1 101 0 := funext fun j => e 101 0 j (by omega)
    have e0 : ∀ c j, c ≠ 10 → c < 100 → M2.1 c 0 j = M.1 c 0 j := fun c j x y => e c 0 j (by omega)
    refine ⟨1, M1, M2, p1, p2, (h.mk3 (fun c a j z => e c a j (by rcases z with ⟨rfl, rfl, z⟩ | ⟨rfl, rfl⟩ | ⟨rfl, rfl⟩ | ⟨rfl, rfl, z⟩ | ⟨rfl, z, rfl⟩ | ⟨rfl, rfl, rfl⟩ <;> omega)) ⟨n, nx, lc, L, C, S, n5, n6, n7, t1, t2, t3, t4, t5, ?_, ?_, ?_, ?_, ?_⟩ (Or.inr ⟨p4, p5, p3⟩)).up⟩
    · rw [e101]
      exact h1.cp (Nat.le_refl _) (TC_eq (fun c j x y => e0 c j (by omega) (by omega))) (e0 30 0 (by omega) (by omega)) (fun j _ => e0 31 j (by omega) (by omega)) (fun _ _ => rfl)
    · rw [e101]
      exact h2.cp (e0 40 0 (by omega) (by omega)) (fun c j _ _ _ => e0 c j (by omega) (by omega)) (fun j _ => e0 46 j (by omega) (by omega)) (fun _ _ => rfl)
    · rw [e101]
      exact h3.cp (fun j _ => e0 50 j (by omega) (by omega)) (fun c j _ _ _ => e0 c j (by omega) (by omega)) (fun j _ => e0 59 j (by omega) (by omega)) (fun _ _ => rfl)
    · rw [e101]
      exact h4.cp ⟨e0 80 0 (by omega) (by omega), fun j _ => ⟨e0 81 j (by omega) (by omega), e0 82 j (by omega) (by omega)⟩⟩ ⟨e0 83 0 (by omega) (by omega), fun j _ => ⟨e0 84 j (by omega) (by omega), e0 85 j (by omega) (by omega)⟩⟩ ⟨e0 86 0 (by omega) (by omega), fun j _ => ⟨e0 87 j (by omega) (by omega), e0 88 j (by omega) (by omega)⟩⟩ ⟨e0 89 0 (by omega) (by omega), fun j _ => ⟨e0 90 j (by omega) (by omega), e0 91 j (by omega) (by omega)⟩⟩ ⟨e0 92 0 (by omega) (by omega), fun j _ => ⟨e0 93 j (by omega) (by omega), e0 94 j (by omega) (by omega)⟩⟩ (fun j _ => e0 71 j (by omega) (by omega)) (fun j _ => e0 72 j (by omega) (by omega)) (fun _ _ => rfl)
    · exact h5.frame (Nat.le_refl _) (by rw [e101]; exact ShW.refl) (e0 8 0 (by omega) (by omega)) (e0 8 1 (by omega) (by omega)) (e 100 0 4 (by omega)) (funext fun j => e 103 0 j (by omega)) (fun c a x y _ _ => funext fun j => e c a j (by omega))
