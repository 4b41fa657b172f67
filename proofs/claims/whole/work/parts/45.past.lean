/-! copies of a shire; the past -/
theorem cpy_rd {M : Mem} {c0 a0 c a sp dp n c' a' j' : Nat} : (cpy M c0 a0 c a sp dp n).1 c' a' j' = if c' = c ∧ a' = a ∧ dp ≤ j' ∧ j' < dp + n then M.1 c0 a0 (sp + (j' - dp)) else M.1 c' a' j' := rfl
theorem k3_cpy {P : Nat → Nat → Nat → Prop} {M : Mem} {c0 a0 c a sp dp n : Nat} (h : ∀ j, P c a j) : K3 P M (cpy M c0 a0 c a sp dp n) := fun c' a' j' hp => by
  rw [cpy_rd, if_neg]
  rintro ⟨rfl, rfl, -⟩
  exact hp (h j')
abbrev landM (M : Mem) (a b : Nat) : Mem := cpy (cpy (cpy (cpy (cpy (cpy (cpy (cpy (cpy (st (st (st (st (st (st (st (st M 20 a 0 (M.1 20 b 0)) 20 a 1 (M.1 20 b 1)) 20 a 2 (M.1 20 b 2)) 20 a 3 (M.1 20 b 3)) 20 a 4 (M.1 20 b 4)) 20 a 5 (M.1 20 b 5)) 20 a 6 (M.1 20 b 6)) 20 a 7 (M.1 20 b 7)) 21 b 21 a 0 0 10) 22 b 22 a 0 0 10) 23 b 23 a 0 0 8) 24 b 24 a 0 0 80) 25 b 25 a 0 0 12) 26 b 26 a 0 0 12) 27 b 27 a 0 0 12) 28 b 28 a 0 0 12) 29 b 29 a 0 0 120
theorem c54 {X : Cx} {d : Nat} {M : Mem} {a b : Nat} (hab : a ≠ b) : ∃ M', CC X (d + 1) 54 [vR 20 a, vR 20 b] M none M' ∧ TC M' a = TC M b ∧ K3 (fun c e _ => e = a ∧ 20 ≤ c ∧ c < 30) M M' := by
  have hba : b ≠ a := fun z => hab z.symm
  have x0 : ix 0 = 0 := ix_l (by decide)
  have x8 : ix 8 = 8 := ix_l (by decide)
  have x10 : ix 10 = 10 := ix_l (by decide)
  have x12 : ix 12 = 12 := ix_l (by decide)
  have x80 : ix 80 = 80 := ix_l (by decide)
  have x120 : ix 120 = 120 := ix_l (by decide)
  refine ⟨landM M a b, e54 (w54_0 ?_), ?_, ?_⟩
  · simp only [forall_eq, true_implies, false_implies, not_true_eq_false, not_false_eq_true, and_true, true_and, and_self, isB0, isB1, bI_t0, bI_f0, i10_, i20_, i01_, i02_, i12_, i21_, x0, x8, x10, x12, x80, x120, st_rd, hba, false_and, and_false, if_false, show ¬ (0 : Int32) < 0 from by decide, show ¬ (8 : Int32) < 0 from by decide, show ¬ (10 : Int32) < 0 from by decide, show ¬ (12 : Int32) < 0 from by decide, show ¬ (80 : Int32) < 0 from by decide, show ¬ (120 : Int32) < 0 from by decide, Nat.zero_add, Nat.le_refl]
  · funext c j
    unfold TC
    by_cases hk : okC c j = true
    · rw [if_pos hk, if_pos hk]
      have h5 := okC_lt hk
      unfold okC at hk
      split at hk
      · rcases eight (h5.1 rfl) with rfl | rfl | rfl | rfl | rfl | rfl | rfl | rfl <;> simp [landM, cpy_rd, st_rd]
      · have := h5.2.1 rfl; simp [landM, cpy_rd, st_rd, this, hba]
      · have := h5.2.2.1 rfl; simp [landM, cpy_rd, st_rd, this, hba]
      · have := h5.2.2.2.1 rfl; simp [landM, cpy_rd, st_rd, this, hba]
      · have := h5.2.2.2.2.1 rfl; simp [landM, cpy_rd, st_rd, this, hba]
      · have := h5.2.2.2.2.2.1 rfl; simp [landM, cpy_rd, st_rd, this, hba]
      · have := h5.2.2.2.2.2.2.1 rfl; simp [landM, cpy_rd, st_rd, this, hba]
      · have := h5.2.2.2.2.2.2.2.1 rfl; simp [landM, cpy_rd, st_rd, this, hba]
      · have := h5.2.2.2.2.2.2.2.2.1 rfl; simp [landM, cpy_rd, st_rd, this, hba]
      · have := h5.2.2.2.2.2.2.2.2.2 rfl; simp [landM, cpy_rd, st_rd, this, hba]
      · cases hk
    · rw [if_neg hk, if_neg hk]
  · unfold landM
    refine k3_trans (k3_trans (k3_trans (k3_trans (k3_trans (k3_trans (k3_trans (k3_trans (k3_trans (k3_trans (k3_trans (k3_trans (k3_trans (k3_trans (k3_trans (k3_trans (k3_st ?_) (k3_st ?_)) (k3_st ?_)) (k3_st ?_)) (k3_st ?_)) (k3_st ?_)) (k3_st ?_)) (k3_st ?_)) (k3_cpy (fun _ => ?_))) (k3_cpy (fun _ => ?_))) (k3_cpy (fun _ => ?_))) (k3_cpy (fun _ => ?_))) (k3_cpy (fun _ => ?_))) (k3_cpy (fun _ => ?_))) (k3_cpy (fun _ => ?_))) (k3_cpy (fun _ => ?_))) (k3_cpy (fun _ => ?_)) <;> exact ⟨rfl, by decide, by decide⟩
theorem c1_ {X : Cx} {d : Nat} {M : Mem} {a b : Nat} (hab : a ≠ b) : ∃ M', CC X (d + 1) 1 [vR 30 a, vR 30 b] M none M' ∧ M'.1 30 a 0 = M.1 30 b 0 ∧ (∀ j, j < 600 → M'.1 31 a j = M.1 31 b j) ∧ K3 (fun c e _ => e = a ∧ 30 ≤ c ∧ c < 32) M M' := by
  refine ⟨cpy (st M 30 a 0 (M.1 30 b 0)) 31 b 31 a 0 0 600, e1 (w1_0 ?_), ?_, fun j hj => ?_, k3_trans (k3_st ⟨rfl, by decide, by decide⟩) (k3_cpy (fun _ => ⟨rfl, by decide, by decide⟩))⟩
  · simp only [forall_eq, true_implies, false_implies, not_true_eq_false, not_false_eq_true, and_true, true_and, and_self, isB0, isB1, bI_t0, bI_f0, i10_, i20_, i01_, i02_, i12_, i21_, show ix 0 = 0 from ix_l (by decide), show ix (Int32.ofNat 600) = 600 from ix_l (by decide), show ¬ (0 : Int32) < 0 from by decide, show ¬ (Int32.ofNat 600 : Int32) < 0 from by decide, Nat.zero_add, Nat.le_refl]
  · simp [cpy_rd, st_rd]
  · simp [cpy_rd, st_rd, hj]
theorem c53 {X : Cx} {d : Nat} {M : Mem} {a b : Nat} (hab : a ≠ b) : ∃ M', CC X (d + 2) 53 [vR 20 a, vR 20 b] M none M' ∧ TC M' a = TC M b ∧ M'.1 30 a 0 = M.1 30 b 0 ∧ (∀ j, j < 600 → M'.1 31 a j = M.1 31 b j) ∧ K3 (fun c e _ => e = a ∧ 20 ≤ c ∧ c < 32) M M' := by
  obtain ⟨M1, p1, p2, p3⟩ := c54 (X := X) (d := d) (M := M) hab
  obtain ⟨M2, q1, q2, q3, q4⟩ := c1_ (X := X) (d := d) (M := M1) hab
  refine ⟨M2, e53 (w53_0 ⟨M1, p1, M2, q1, rfl, rfl⟩), ?_, ?_, ?_, k3_trans (k3_sub p3 (fun c e j z => ⟨z.1, z.2.1, by omega⟩)) (k3_sub q4 (fun c e j z => ⟨z.1, by omega, z.2.2⟩))⟩
  · rw [TC_k q4 (fun c j h1 h2 => by omega), p2]
  · rw [q2, p3 30 b 0 (by omega)]
  · intro j hj
    rw [q3 j hj, p3 31 b j (by omega)]
theorem c8 {X : Cx} {d : Nat} {M : Mem} {n nx : Nat} (hn : n ≤ 6) (hx : nx < 6) (h0 : M.1 8 0 0 = iN n) (h1 : M.1 8 0 1 = iN nx) : ∃ M', CC X (d + 3) 8 [vR 8 0, vR 20 0] M none M' ∧ TC M' (2 + nx) = TC M 0 ∧ M'.1 30 (2 + nx) 0 = M.1 30 0 0 ∧ (∀ j, j < 600 → M'.1 31 (2 + nx) j = M.1 31 0 j) ∧ M'.1 8 0 0 = iN (min 6 (n + 1)) ∧ M'.1 8 0 1 = iN ((nx + 1) % 6) ∧ K3 (fun c e j => (e = 2 + nx ∧ 20 ≤ c ∧ c < 32) ∨ (c = 8 ∧ e = 0 ∧ j < 2)) M M' := by
  obtain ⟨M1, p1, p2, p3, p4, p5⟩ := c53 (X := X) (d := d) (M := M) (a := 2 + nx) (b := 0) (by omega)
  have r0 : M1.1 8 0 0 = iN n := by rw [p5 8 0 0 (by omega)]; exact h0
  have r1 : M1.1 8 0 1 = iN nx := by rw [p5 8 0 1 (by omega)]; exact h1
  have s0 : ∀ y, (st M1 8 0 1 y).1 8 0 0 = iN n := fun y => by rw [st_ne3 (by omega)]; exact r0
  have e1 : iN (nx + 1) % 6 = iN ((nx + 1) % 6) := by rw [iN_lit 6, iN_mod (by omega) (by decide) (by decide)]
  have e2 : (if iN (n + 1) < 6 then iN (n + 1) else 6) = iN (min 6 (n + 1)) := by
    by_cases h : n + 1 < 6
    · rw [if_pos (show iN (n + 1) < 6 from (iN_lt (b := 6) (by omega) (by decide)).mpr h), Nat.min_eq_right (by omega)]
    · rw [if_neg (show ¬ iN (n + 1) < 6 from fun z => h ((iN_lt (b := 6) (by omega) (by decide)).mp z)), Nat.min_eq_left (by omega)]
      rfl
  refine ⟨st (st M1 8 0 1 (iN ((nx + 1) % 6))) 8 0 0 (iN (min 6 (n + 1))), e8 (w8_0 ?_), ?_, ?_, ?_, st_at, ?_, ?_⟩
  · simp only [forall_eq, true_implies, false_implies, not_true_eq_false, not_false_eq_true, and_true, true_and, and_self, isB0, isB1, bI_t0, bI_f0, i10_, i20_, i01_, i02_, i12_, i21_, h1, nlt0 (show nx < 2147483648 by omega), show (6 ≤ iN nx) = False from nle_ (a := 6) (by decide) (by omega) hx, show inb (iN nx) 6 from inb_of hx (by decide), ix_of (show nx < 2147483648 by omega)]
    refine ⟨_, p1, ?_⟩
    simp only [forall_eq, true_implies, false_implies, not_true_eq_false, not_false_eq_true, and_true, true_and, and_self, isB0, isB1, bI_t0, bI_f0, i10_, i20_, i01_, i02_, i12_, i21_, show ((6 : Int32) = 0) = False from by decide, r1, e1, s0, iN_step, e2]
  · rw [TC_off (Or.inl (fun _ => rfl)), TC_off (Or.inl (fun _ => rfl)), p2]
  · rw [st_ne3 (fun z => absurd z.1 (by decide)), st_ne3 (fun z => absurd z.1 (by decide)), p3]
  · intro j hj
    rw [st_ne3 (fun z => absurd z.1 (by decide)), st_ne3 (fun z => absurd z.1 (by decide)), p4 j hj]
  · rw [st_ne3 (by omega), st_at]
  · exact k3_trans (k3_trans (k3_sub p5 (fun c e j z => Or.inl z)) (k3_st (Or.inr ⟨rfl, rfl, by decide⟩))) (k3_st (Or.inr ⟨rfl, rfl, by decide⟩))
/-! the reference keeps -/
theorem c211_copy {X : Cx} {d : Nat} {M : Mem} {m : Nat} (hm : m < 6) (h : M.1 100 0 4 = iN m) : ∃ M', (∀ k, k < 229 → M'.1 103 0 (229 * m + k) = M.1 101 0 k) ∧ (∀ i, i < 229 * m → M'.1 103 0 i = M.1 103 0 i) ∧ M'.1 100 0 4 = iN (m + 1) ∧ M'.1 100 0 26 = 1 ∧ K3 (fun c a j => (c = 103 ∧ a = 0) ∨ (c = 100 ∧ a = 0 ∧ (j = 4 ∨ j = 26))) M M' ∧ ∀ Q : Option Vl → Mem → Prop, Q none M' → V X (d + 1) 211 52 [some (vR 100 0), some (vI 0)] [] M Q := by
  obtain ⟨M2, ⟨i1, i2, i3⟩, hV⟩ := for_fwd (n := 229) (M := M)
    (I := fun t Mt => (∀ k, k < t → Mt.1 103 0 (229 * m + k) = M.1 101 0 k) ∧ (∀ i, i < 229 * m → Mt.1 103 0 i = M.1 103 0 i) ∧ K3 (fun c a _ => c = 103 ∧ a = 0) M Mt)
    (St := fun t Mt Q => V X (d + 1) 211 52 [some (vR 100 0), some (vI (iN t))] [] Mt Q)
    (by
      rintro t Mt ht ⟨g1, g2, g3⟩
      have e1 : 229 * iN m + iN t = iN (229 * m + t) := by simp only [iN_lit, iN_mul, iN_add]
      refine ⟨st Mt 103 0 (229 * m + t) (M.1 101 0 t), ⟨fun k hk => ?_, fun i hi => ?_, k3_trans g3 (k3_st ⟨rfl, rfl⟩)⟩, fun Q hQ => w211_52 ?_⟩
      · by_cases hkt : k = t
        · subst hkt
          rw [st_at]
        · rw [st_ne3 (by omega)]
          exact g1 k (by omega)
      · rw [st_ne3 (by omega)]
        exact g2 i hi
      · simp only [forall_eq, true_implies, false_implies, not_true_eq_false, not_false_eq_true, and_true, true_and, and_self, isB0, isB1, bI_t0, bI_f0, i10_, i20_, i01_, i02_, i12_, i21_, show (229 ≤ iN t) = False from nle_ (a := 229) (by decide) (by omega) ht, show inb (iN t) 2129 from inb_of (by omega) (by decide), ix_of (show t < 2147483648 by omega), show Mt.1 100 0 4 = iN m by rw [g3 100 0 4 (by simp)]; exact h, e1, show inb (iN (229 * m + t)) 1374 from inb_of (by omega) (by decide), ix_of (show 229 * m + t < 2147483648 by omega), show Mt.1 101 0 t = M.1 101 0 t from g3 101 0 t (by simp), iN_step]
        exact hQ)
    ⟨fun k hk => absurd hk (by omega), fun _ _ => rfl, k3_refl⟩
  refine ⟨st (st M2 100 0 4 (iN (m + 1))) 100 0 26 1, fun k hk => ?_, fun i hi => ?_, ?_, st_at, ?_, fun Q hQ => hV Q (w211_52 ?_)⟩
  · rw [st_ne3 (fun z => absurd z.1 (by decide)), st_ne3 (fun z => absurd z.1 (by decide))]
    exact i1 k hk
  · rw [st_ne3 (fun z => absurd z.1 (by decide)), st_ne3 (fun z => absurd z.1 (by decide))]
    exact i2 i hi
  · rw [st_ne3 (by omega), st_at]
  · exact k3_trans (k3_trans (k3_sub i3 (fun c a j z => Or.inl z)) (k3_st (Or.inr ⟨rfl, rfl, Or.inl rfl⟩))) (k3_st (Or.inr ⟨rfl, rfl, Or.inr rfl⟩))
  · simp only [forall_eq, true_implies, false_implies, not_true_eq_false, not_false_eq_true, and_true, true_and, and_self, isB0, isB1, bI_t0, bI_f0, i10_, i20_, i01_, i02_, i12_, i21_, show ((229 : Int32) ≤ iN 229) = True from by decide, show M2.1 100 0 4 = iN m by rw [i3 100 0 4 (by simp)]; exact h, iN_step]
    exact hQ
theorem c211 {X : Cx} {d : Nat} {M : Mem} {m : Nat} (hm : m ≤ 6) (h : M.1 100 0 4 = iN m) : ∃ M', CC X (d + 1) 211 [vR 100 0] M none M' ∧ M'.1 100 0 4 = iN (min 6 (m + 1)) ∧ M'.1 100 0 26 = 1 ∧ (∀ k, k < 229 → M'.1 103 0 (229 * (min 6 (m + 1) - 1) + k) = M.1 101 0 k) ∧ (∀ t k, 1 ≤ t → t < min 6 (m + 1) → k < 229 → M'.1 103 0 (229 * (min 6 (m + 1) - 1 - t) + k) = M.1 103 0 (229 * (m - t) + k)) ∧ K3 (fun c a j => (c = 103 ∧ a = 0) ∨ (c = 100 ∧ a = 0 ∧ (j = 4 ∨ j = 26))) M M' := by
  by_cases h6 : m = 6
  · subst h6
    obtain ⟨M2, ⟨i1, i2, i3⟩, hV⟩ := for_fwd (n := 1145) (M := M)
      (I := fun t Mt => (∀ k, k < t → Mt.1 103 0 k = M.1 103 0 (k + 229)) ∧ (∀ k, t ≤ k → Mt.1 103 0 k = M.1 103 0 k) ∧ K3 (fun c a _ => c = 103 ∧ a = 0) M Mt)
      (St := fun t Mt Q => V X (d + 1) 211 11 [some (vR 100 0), some (vI (iN t))] [] Mt Q)
      (by
        rintro t Mt ht ⟨g1, g2, g3⟩
        have e1 : iN t + 229 = iN (t + 229) := by simp only [iN_lit, iN_add]
        refine ⟨st Mt 103 0 t (M.1 103 0 (t + 229)), ⟨fun k hk => ?_, fun k hk => ?_, k3_trans g3 (k3_st ⟨rfl, rfl⟩)⟩, fun Q hQ => w211_11 ?_⟩
        · by_cases hkt : k = t
          · subst hkt
            rw [st_at]
          · rw [st_ne3 (by omega)]
            exact g1 k (by omega)
        · rw [st_ne3 (by omega)]
          exact g2 k (by omega)
        · simp only [forall_eq, true_implies, false_implies, not_true_eq_false, not_false_eq_true, and_true, true_and, and_self, isB0, isB1, bI_t0, bI_f0, i10_, i20_, i01_, i02_, i12_, i21_, show (1145 ≤ iN t) = False from nle_ (a := 1145) (by decide) (by omega) ht, e1, show inb (iN (t + 229)) 1374 from inb_of (by omega) (by decide), show inb (iN t) 1374 from inb_of (by omega) (by decide), ix_of (show t < 2147483648 by omega), ix_of (show t + 229 < 2147483648 by omega), g2 (t + 229) (by omega), iN_step]
          exact hQ)
      ⟨fun k hk => absurd hk (by omega), fun _ _ => rfl, k3_refl⟩
    obtain ⟨M3, j1, j2, j3, j4, j5, j6⟩ := c211_copy (X := X) (d := d) (M := st M2 100 0 4 (iN 5)) (m := 5) (by decide) st_at
    refine ⟨M3, e211 (w211_0 ?_), j3, j4, fun k hk => ?_, fun t k h1 h2 h3 => ?_, ?_⟩
    · simp only [forall_eq, true_implies, false_implies, not_true_eq_false, not_false_eq_true, and_true, true_and, and_self, isB0, isB1, bI_t0, bI_f0, i10_, i20_, i01_, i02_, i12_, i21_, h, show (iN 6 = 6) = True from eq_true rfl]
      refine hV _ (w211_11 ?_)
      simp only [forall_eq, true_implies, false_implies, not_true_eq_false, not_false_eq_true, and_true, true_and, and_self, isB0, isB1, bI_t0, bI_f0, i10_, i20_, i01_, i02_, i12_, i21_, show ((1145 : Int32) ≤ iN 1145) = True from by decide, show M2.1 100 0 4 = iN (5 + 1) by rw [i3 100 0 4 (by simp)]; exact h, iN_pred]
      exact j6 _ ⟨rfl, rfl⟩
    · rw [show min 6 (6 + 1) - 1 = 5 from rfl, j1 k hk, st_ne3 (fun z => absurd z.1 (by decide)), i3 101 0 k (by simp)]
    · have h2 : t < 6 := h2
      rw [show min 6 (6 + 1) - 1 - t = 5 - t from rfl, j2 _ (by omega), st_ne3 (fun z => absurd z.1 (by decide)), i1 _ (by omega), show 229 * (5 - t) + k + 229 = 229 * (6 - t) + k by omega]
    · exact k3_trans (k3_trans (k3_sub i3 (fun c a j z => Or.inl z)) (k3_st (Or.inr ⟨rfl, rfl, Or.inl rfl⟩))) j5
  · obtain ⟨M3, j1, j2, j3, j4, j5, j6⟩ := c211_copy (X := X) (d := d) (M := M) (m := m) (by omega) h
    have hmin : min 6 (m + 1) = m + 1 := Nat.min_eq_right (by omega)
    rw [hmin]
    refine ⟨M3, e211 (w211_0 ?_), j3, j4, fun k hk => ?_, fun t k h1 h2 h3 => ?_, j5⟩
    · simp only [forall_eq, true_implies, false_implies, not_true_eq_false, not_false_eq_true, and_true, true_and, and_self, isB0, isB1, bI_t0, bI_f0, i10_, i20_, i01_, i02_, i12_, i21_, h, show (iN m = 6) = False from neq_ (b := 6) (by omega) (by decide) h6]
      exact j6 _ ⟨rfl, rfl⟩
    · rw [Nat.add_sub_cancel, j1 k hk]
    · rw [show m + 1 - 1 - t = m - t by omega, j2 _ (by
        have : 229 * (m - t) + 229 ≤ 229 * m := by omega
        omega)]
