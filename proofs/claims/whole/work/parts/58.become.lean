/-! what becomes of law, plans, thoughts: copies -/
theorem cpy_c {M : Mem} {c a b n : Nat} {c' a' j : Nat} (h : ¬ (c' = c ∧ a' = a)) : (cpy M c b c a 0 0 n).1 c' a' j = M.1 c' a' j := by
  rw [cpy_rd, if_neg (fun z => h ⟨z.1, z.2.1⟩)]
theorem cpy_a {M : Mem} {c a b n j : Nat} (h : j < n) : (cpy M c b c a 0 0 n).1 c a j = M.1 c b j := by
  rw [cpy_rd, if_pos ⟨rfl, rfl, by omega, by omega⟩, Nat.sub_zero, Nat.zero_add]
theorem c2 {X : Cx} {d : Nat} {M : Mem} {a b : Nat} (hab : a ≠ b) : ∃ M', CC X (d + 1) 2 [vR 40 a, vR 40 b] M none M' ∧ M'.1 40 a 0 = M.1 40 b 0 ∧ (∀ c j, 42 ≤ c → c < 46 → j < 16 → M'.1 c a j = M.1 c b j) ∧ (∀ j, j < 400 → M'.1 46 a j = M.1 46 b j) ∧ K3 (fun c e _ => e = a ∧ 40 ≤ c ∧ c < 47) M M' := by
  have hba : b ≠ a := fun z => hab z.symm
  refine ⟨cpy (cpy (cpy (cpy (cpy (st (st M 40 a 0 (M.1 40 b 0)) 40 a 1 (M.1 40 b 1)) 42 b 42 a 0 0 16) 43 b 43 a 0 0 16) 44 b 44 a 0 0 16) 45 b 45 a 0 0 16) 46 b 46 a 0 0 400, e2 (w2_0 ?_), ?_, fun c j h1 h2 hj => ?_, fun j hj => ?_, ?_⟩
  · simp only [forall_eq, true_implies, false_implies, not_true_eq_false, not_false_eq_true, and_true, true_and, and_self, isB0, isB1, bI_t0, bI_f0, i10_, i20_, i01_, i02_, i12_, i21_, show ix 0 = 0 from ix_l (by decide), show ix 16 = 16 from ix_l (by decide), show ix 400 = 400 from ix_l (by decide), show ((0 : Int32) < 0) = False from by decide, show ((16 : Int32) < 0) = False from by decide, show ((400 : Int32) < 0) = False from by decide, Nat.zero_add, Nat.le_refl, show ∀ y, (st M 40 a 0 y).1 40 b 1 = M.1 40 b 1 from fun y => st_ne3 (fun z => hba z.2.1)]
  · rw [cpy_c (fun z => absurd z.1 (by decide)), cpy_c (fun z => absurd z.1 (by decide)), cpy_c (fun z => absurd z.1 (by decide)), cpy_c (fun z => absurd z.1 (by decide)), cpy_c (fun z => absurd z.1 (by decide)), st_ne3 (by omega), st_at]
  · rcases (show c = 42 ∨ c = 43 ∨ c = 44 ∨ c = 45 by omega) with rfl | rfl | rfl | rfl
    · rw [cpy_c (fun z => absurd z.1 (by decide)), cpy_c (fun z => absurd z.1 (by decide)), cpy_c (fun z => absurd z.1 (by decide)), cpy_c (fun z => absurd z.1 (by decide)), cpy_a hj, st_ne3 (fun z => absurd z.1 (by decide)), st_ne3 (fun z => absurd z.1 (by decide))]
    · rw [cpy_c (fun z => absurd z.1 (by decide)), cpy_c (fun z => absurd z.1 (by decide)), cpy_c (fun z => absurd z.1 (by decide)), cpy_a hj, cpy_c (fun z => absurd z.1 (by decide)), st_ne3 (fun z => absurd z.1 (by decide)), st_ne3 (fun z => absurd z.1 (by decide))]
    · rw [cpy_c (fun z => absurd z.1 (by decide)), cpy_c (fun z => absurd z.1 (by decide)), cpy_a hj, cpy_c (fun z => absurd z.1 (by decide)), cpy_c (fun z => absurd z.1 (by decide)), st_ne3 (fun z => absurd z.1 (by decide)), st_ne3 (fun z => absurd z.1 (by decide))]
    · rw [cpy_c (fun z => absurd z.1 (by decide)), cpy_a hj, cpy_c (fun z => absurd z.1 (by decide)), cpy_c (fun z => absurd z.1 (by decide)), cpy_c (fun z => absurd z.1 (by decide)), st_ne3 (fun z => absurd z.1 (by decide)), st_ne3 (fun z => absurd z.1 (by decide))]
  · rw [cpy_a hj, cpy_c (fun z => absurd z.1 (by decide)), cpy_c (fun z => absurd z.1 (by decide)), cpy_c (fun z => absurd z.1 (by decide)), cpy_c (fun z => absurd z.1 (by decide)), st_ne3 (fun z => absurd z.1 (by decide)), st_ne3 (fun z => absurd z.1 (by decide))]
  · exact k3_trans (k3_trans (k3_trans (k3_trans (k3_trans (k3_trans (k3_st ⟨rfl, by decide, by decide⟩) (k3_st ⟨rfl, by decide, by decide⟩)) (k3_cpy (fun _ => ⟨rfl, by decide, by decide⟩))) (k3_cpy (fun _ => ⟨rfl, by decide, by decide⟩))) (k3_cpy (fun _ => ⟨rfl, by decide, by decide⟩))) (k3_cpy (fun _ => ⟨rfl, by decide, by decide⟩))) (k3_cpy (fun _ => ⟨rfl, by decide, by decide⟩))
theorem c12 {X : Cx} {d : Nat} {M : Mem} {a b : Nat} (hab : a ≠ b) : ∃ M', CC X (d + 1) 12 [vR 50 a, vR 50 b] M none M' ∧ M'.1 50 a 0 = M.1 50 b 0 ∧ (∀ c j, 53 ≤ c → c < 57 → j < 16 → M'.1 c a j = M.1 c b j) ∧ K3 (fun c e j => e = a ∧ ((c = 50 ∧ j = 0) ∨ (53 ≤ c ∧ c < 57))) M M' := by
  have hba : b ≠ a := fun z => hab z.symm
  refine ⟨cpy (cpy (cpy (cpy (st M 50 a 0 (M.1 50 b 0)) 53 b 53 a 0 0 16) 54 b 54 a 0 0 16) 55 b 55 a 0 0 16) 56 b 56 a 0 0 16, e12 (w12_0 ?_), ?_, fun c j h1 h2 hj => ?_, ?_⟩
  · simp only [forall_eq, true_implies, false_implies, not_true_eq_false, not_false_eq_true, and_true, true_and, and_self, isB0, isB1, bI_t0, bI_f0, i10_, i20_, i01_, i02_, i12_, i21_, show ix 0 = 0 from ix_l (by decide), show ix 16 = 16 from ix_l (by decide), show ((0 : Int32) < 0) = False from by decide, show ((16 : Int32) < 0) = False from by decide, Nat.zero_add, Nat.le_refl]
  · rw [cpy_c (fun z => absurd z.1 (by decide)), cpy_c (fun z => absurd z.1 (by decide)), cpy_c (fun z => absurd z.1 (by decide)), cpy_c (fun z => absurd z.1 (by decide)), st_at]
  · rcases (show c = 53 ∨ c = 54 ∨ c = 55 ∨ c = 56 by omega) with rfl | rfl | rfl | rfl
    · rw [cpy_c (fun z => absurd z.1 (by decide)), cpy_c (fun z => absurd z.1 (by decide)), cpy_c (fun z => absurd z.1 (by decide)), cpy_a hj, st_ne3 (fun z => absurd z.1 (by decide))]
    · rw [cpy_c (fun z => absurd z.1 (by decide)), cpy_c (fun z => absurd z.1 (by decide)), cpy_a hj, cpy_c (fun z => absurd z.1 (by decide)), st_ne3 (fun z => absurd z.1 (by decide))]
    · rw [cpy_c (fun z => absurd z.1 (by decide)), cpy_a hj, cpy_c (fun z => absurd z.1 (by decide)), cpy_c (fun z => absurd z.1 (by decide)), st_ne3 (fun z => absurd z.1 (by decide))]
    · rw [cpy_a hj, cpy_c (fun z => absurd z.1 (by decide)), cpy_c (fun z => absurd z.1 (by decide)), cpy_c (fun z => absurd z.1 (by decide)), st_ne3 (fun z => absurd z.1 (by decide))]
  · exact k3_trans (k3_trans (k3_trans (k3_trans (k3_st ⟨rfl, Or.inl ⟨rfl, rfl⟩⟩) (k3_cpy (fun _ => ⟨rfl, Or.inr ⟨by decide, by decide⟩⟩))) (k3_cpy (fun _ => ⟨rfl, Or.inr ⟨by decide, by decide⟩⟩))) (k3_cpy (fun _ => ⟨rfl, Or.inr ⟨by decide, by decide⟩⟩))) (k3_cpy (fun _ => ⟨rfl, Or.inr ⟨by decide, by decide⟩⟩))
theorem c13 {X : Cx} {d : Nat} {M : Mem} {a b : Nat} (hab : a ≠ b) : ∃ M', CC X (d + 1) 13 [vR 50 a, vR 50 b] M none M' ∧ M'.1 50 a 1 = M.1 50 b 1 ∧ (∀ c j, 57 ≤ c → c < 59 → j < 16 → M'.1 c a j = M.1 c b j) ∧ K3 (fun c e j => e = a ∧ ((c = 50 ∧ j = 1) ∨ (57 ≤ c ∧ c < 59))) M M' := by
  have hba : b ≠ a := fun z => hab z.symm
  refine ⟨cpy (cpy (st M 50 a 1 (M.1 50 b 1)) 57 b 57 a 0 0 16) 58 b 58 a 0 0 16, e13 (w13_0 ?_), ?_, fun c j h1 h2 hj => ?_, ?_⟩
  · simp only [forall_eq, true_implies, false_implies, not_true_eq_false, not_false_eq_true, and_true, true_and, and_self, isB0, isB1, bI_t0, bI_f0, i10_, i20_, i01_, i02_, i12_, i21_, show ix 0 = 0 from ix_l (by decide), show ix 16 = 16 from ix_l (by decide), show ((0 : Int32) < 0) = False from by decide, show ((16 : Int32) < 0) = False from by decide, Nat.zero_add, Nat.le_refl]
  · rw [cpy_c (fun z => absurd z.1 (by decide)), cpy_c (fun z => absurd z.1 (by decide)), st_at]
  · rcases (show c = 57 ∨ c = 58 by omega) with rfl | rfl
    · rw [cpy_c (fun z => absurd z.1 (by decide)), cpy_a hj, st_ne3 (fun z => absurd z.1 (by decide))]
    · rw [cpy_a hj, cpy_c (fun z => absurd z.1 (by decide)), st_ne3 (fun z => absurd z.1 (by decide))]
  · exact k3_trans (k3_trans (k3_st ⟨rfl, Or.inl ⟨rfl, rfl⟩⟩) (k3_cpy (fun _ => ⟨rfl, Or.inr ⟨by decide, by decide⟩⟩))) (k3_cpy (fun _ => ⟨rfl, Or.inr ⟨by decide, by decide⟩⟩))
theorem c14 {X : Cx} {d : Nat} {M : Mem} {a b : Nat} (hab : a ≠ b) : ∃ M', CC X (d + 1) 14 [vR 50 a, vR 50 b] M none M' ∧ M'.1 50 a 2 = M.1 50 b 2 ∧ (∀ j, j < 64 → M'.1 59 a j = M.1 59 b j) ∧ K3 (fun c e j => e = a ∧ ((c = 50 ∧ j = 2) ∨ c = 59)) M M' := by
  have hba : b ≠ a := fun z => hab z.symm
  refine ⟨cpy (st M 50 a 2 (M.1 50 b 2)) 59 b 59 a 0 0 64, e14 (w14_0 ?_), ?_, fun j hj => ?_, ?_⟩
  · simp only [forall_eq, true_implies, false_implies, not_true_eq_false, not_false_eq_true, and_true, true_and, and_self, isB0, isB1, bI_t0, bI_f0, i10_, i20_, i01_, i02_, i12_, i21_, show ix 0 = 0 from ix_l (by decide), show ix 64 = 64 from ix_l (by decide), show ((0 : Int32) < 0) = False from by decide, show ((64 : Int32) < 0) = False from by decide, Nat.zero_add, Nat.le_refl]
  · rw [cpy_c (fun z => absurd z.1 (by decide)), st_at]
  · rw [cpy_a hj, st_ne3 (fun z => absurd z.1 (by decide))]
  · exact k3_trans (k3_st ⟨rfl, Or.inl ⟨rfl, rfl⟩⟩) (k3_cpy (fun _ => ⟨rfl, Or.inr rfl⟩))
theorem c11 {X : Cx} {d : Nat} {M : Mem} {a b : Nat} (hab : a ≠ b) : ∃ M', CC X (d + 2) 11 [vR 50 a, vR 50 b] M none M' ∧ (∀ j, j < 3 → M'.1 50 a j = M.1 50 b j) ∧ (∀ c j, 53 ≤ c → c < 59 → j < 16 → M'.1 c a j = M.1 c b j) ∧ (∀ j, j < 64 → M'.1 59 a j = M.1 59 b j) ∧ K3 (fun c e _ => e = a ∧ 50 ≤ c ∧ c < 60) M M' := by
  have hba : b ≠ a := fun z => hab z.symm
  obtain ⟨M1, p1, p2, p3, p4⟩ := c12 (X := X) (d := d) (M := M) hab
  obtain ⟨M2, q1, q2, q3, q4⟩ := c13 (X := X) (d := d) (M := M1) hab
  obtain ⟨M3, r1, r2, r3, r4⟩ := c14 (X := X) (d := d) (M := M2) hab
  have f1 : ∀ c j, M1.1 c b j = M.1 c b j := fun c j => p4 c b j (fun z => hba z.1)
  have f2 : ∀ c j, M2.1 c b j = M.1 c b j := fun c j => by rw [q4 c b j (fun z => hba z.1), f1]
  refine ⟨M3, e11 (w11_0 ⟨_, p1, _, q1, _, r1, rfl, rfl⟩), fun j hj => ?_, fun c j h1 h2 hj => ?_, fun j hj => by rw [r3 j hj, f2], k3_trans (k3_trans (k3_sub p4 (fun c e j z => by omega)) (k3_sub q4 (fun c e j z => by omega))) (k3_sub r4 (fun c e j z => by omega))⟩
  · rcases (show j = 0 ∨ j = 1 ∨ j = 2 by omega) with rfl | rfl | rfl
    · rw [r4 50 a 0 (by omega), q4 50 a 0 (by omega), p2]
    · rw [r4 50 a 1 (by omega), q2, f1]
    · rw [r2, f2]
  · by_cases hc : c < 57
    · rw [r4 c a j (by omega), q4 c a j (by omega), p3 c j h1 hc hj]
    · rw [r4 c a j (by omega), q3 c j (by omega) h2 hj, f1]
theorem c88_80 {X : Cx} {d : Nat} {M : Mem} {a b n : Nat} (hab : a ≠ b) (hn : n ≤ 10) (h : M.1 80 b 0 = iN n) : ∃ M', CC X (d + 1) 88 [vR 80 a, vR 80 b] M none M' ∧ M'.1 80 a 0 = M.1 80 b 0 ∧ (∀ j, j < n → M'.1 81 a j = M.1 81 b j ∧ M'.1 82 a j = M.1 82 b j) ∧ K3 (fun c e _ => e = a ∧ 80 ≤ c ∧ c < 83) M M' := by
  have hba : b ≠ a := fun z => hab z.symm
  have f0 : (if Int32.ofNat 10 < iN n then Int32.ofNat 10 else iN n) = iN n := if_neg (fun z => absurd ((iN_lt (by decide) (by omega)).mp z) (by omega))
  obtain ⟨M2, ⟨i1, i2⟩, hV⟩ := for_fwd (n := n) (M := st M 80 a 0 (iN n))
    (I := fun t Mt => (∀ j, j < t → Mt.1 81 a j = M.1 81 b j ∧ Mt.1 82 a j = M.1 82 b j) ∧ K3 (fun c e _ => e = a ∧ (c = 81 ∨ c = 82)) (st M 80 a 0 (iN n)) Mt)
    (St := fun t Mt Q => V X (d + 1) 88 18 [some (vR 80 a), some (vR 80 b), some (vI (iN t))] [] Mt Q)
    (by
      rintro t Mt ht ⟨g1, g2⟩
      refine ⟨st (st Mt 81 a t (M.1 81 b t)) 82 a t (M.1 82 b t), ⟨fun j hj => ?_, k3_trans g2 (k3_trans (k3_st ⟨rfl, Or.inl rfl⟩) (k3_st ⟨rfl, Or.inr rfl⟩))⟩, fun Q hQ => w88_18_80 ?_⟩
      · by_cases hjt : j = t
        · subst hjt
          exact ⟨by rw [st_ne3 (fun z => absurd z.1 (by decide)), st_at], st_at⟩
        · rw [st_ne3 (fun z => absurd z.1 (by decide)), st_ne3 (fun z => hjt z.2.2), st_ne3 (fun z => hjt z.2.2), st_ne3 (fun z => absurd z.1 (by decide))]
          exact g1 j (by omega)
      · simp only [forall_eq, true_implies, false_implies, not_true_eq_false, not_false_eq_true, and_true, true_and, and_self, isB0, isB1, bI_t0, bI_f0, i10_, i20_, i01_, i02_, i12_, i21_, show Mt.1 80 a 0 = iN n by rw [g2 80 a 0 (by omega), st_at], nle_ (a := n) (b := t) (by omega) (by omega) ht, show inb (iN t) 10 from inb_of (by omega) (by decide), ix_of (show t < 2147483648 by omega), show Mt.1 81 b t = M.1 81 b t by rw [g2 81 b t (by omega), st_ne3 (fun z => absurd z.1 (by decide))], show ∀ y, (st Mt 81 a t y).1 82 b t = M.1 82 b t from fun y => by rw [st_ne3 (fun z => absurd z.1 (by decide)), g2 82 b t (by omega), st_ne3 (fun z => absurd z.1 (by decide))], iN_step]
        exact hQ)
    ⟨fun j hj => absurd hj (by omega), k3_refl⟩
  have c0 : M2.1 80 a 0 = iN n := by rw [i2 80 a 0 (by omega), st_at]
  refine ⟨M2, e88_80 (w88_0_80 ?_), by rw [c0, h], i1, k3_trans (k3_st ⟨rfl, by decide, by decide⟩) (k3_sub i2 (fun c e j z => by omega))⟩
  rw [h, f0]
  rintro M1 rfl
  refine hV _ (w88_18_80 ?_)
  simp only [forall_eq, true_implies, false_implies, not_true_eq_false, not_false_eq_true, and_true, true_and, and_self, isB0, isB1, bI_t0, bI_f0, i10_, i20_, i01_, i02_, i12_, i21_, c0, yle_ (a := n) (b := n) (by omega) (by omega) (Nat.le_refl _)]
theorem c88_83 {X : Cx} {d : Nat} {M : Mem} {a b n : Nat} (hab : a ≠ b) (hn : n ≤ 10) (h : M.1 83 b 0 = iN n) : ∃ M', CC X (d + 1) 88 [vR 83 a, vR 83 b] M none M' ∧ M'.1 83 a 0 = M.1 83 b 0 ∧ (∀ j, j < n → M'.1 84 a j = M.1 84 b j ∧ M'.1 85 a j = M.1 85 b j) ∧ K3 (fun c e _ => e = a ∧ 83 ≤ c ∧ c < 86) M M' := by
  have hba : b ≠ a := fun z => hab z.symm
  have f0 : (if Int32.ofNat 10 < iN n then Int32.ofNat 10 else iN n) = iN n := if_neg (fun z => absurd ((iN_lt (by decide) (by omega)).mp z) (by omega))
  obtain ⟨M2, ⟨i1, i2⟩, hV⟩ := for_fwd (n := n) (M := st M 83 a 0 (iN n))
    (I := fun t Mt => (∀ j, j < t → Mt.1 84 a j = M.1 84 b j ∧ Mt.1 85 a j = M.1 85 b j) ∧ K3 (fun c e _ => e = a ∧ (c = 84 ∨ c = 85)) (st M 83 a 0 (iN n)) Mt)
    (St := fun t Mt Q => V X (d + 1) 88 18 [some (vR 83 a), some (vR 83 b), some (vI (iN t))] [] Mt Q)
    (by
      rintro t Mt ht ⟨g1, g2⟩
      refine ⟨st (st Mt 84 a t (M.1 84 b t)) 85 a t (M.1 85 b t), ⟨fun j hj => ?_, k3_trans g2 (k3_trans (k3_st ⟨rfl, Or.inl rfl⟩) (k3_st ⟨rfl, Or.inr rfl⟩))⟩, fun Q hQ => w88_18_83 ?_⟩
      · by_cases hjt : j = t
        · subst hjt
          exact ⟨by rw [st_ne3 (fun z => absurd z.1 (by decide)), st_at], st_at⟩
        · rw [st_ne3 (fun z => absurd z.1 (by decide)), st_ne3 (fun z => hjt z.2.2), st_ne3 (fun z => hjt z.2.2), st_ne3 (fun z => absurd z.1 (by decide))]
          exact g1 j (by omega)
      · simp only [forall_eq, true_implies, false_implies, not_true_eq_false, not_false_eq_true, and_true, true_and, and_self, isB0, isB1, bI_t0, bI_f0, i10_, i20_, i01_, i02_, i12_, i21_, show Mt.1 83 a 0 = iN n by rw [g2 83 a 0 (by omega), st_at], nle_ (a := n) (b := t) (by omega) (by omega) ht, show inb (iN t) 10 from inb_of (by omega) (by decide), ix_of (show t < 2147483648 by omega), show Mt.1 84 b t = M.1 84 b t by rw [g2 84 b t (by omega), st_ne3 (fun z => absurd z.1 (by decide))], show ∀ y, (st Mt 84 a t y).1 85 b t = M.1 85 b t from fun y => by rw [st_ne3 (fun z => absurd z.1 (by decide)), g2 85 b t (by omega), st_ne3 (fun z => absurd z.1 (by decide))], iN_step]
        exact hQ)
    ⟨fun j hj => absurd hj (by omega), k3_refl⟩
  have c0 : M2.1 83 a 0 = iN n := by rw [i2 83 a 0 (by omega), st_at]
  refine ⟨M2, e88_83 (w88_0_83 ?_), by rw [c0, h], i1, k3_trans (k3_st ⟨rfl, by decide, by decide⟩) (k3_sub i2 (fun c e j z => by omega))⟩
  rw [h, f0]
  rintro M1 rfl
  refine hV _ (w88_18_83 ?_)
  simp only [forall_eq, true_implies, false_implies, not_true_eq_false, not_false_eq_true, and_true, true_and, and_self, isB0, isB1, bI_t0, bI_f0, i10_, i20_, i01_, i02_, i12_, i21_, c0, yle_ (a := n) (b := n) (by omega) (by omega) (Nat.le_refl _)]
theorem c88_86 {X : Cx} {d : Nat} {M : Mem} {a b n : Nat} (hab : a ≠ b) (hn : n ≤ 20) (h : M.1 86 b 0 = iN n) : ∃ M', CC X (d + 1) 88 [vR 86 a, vR 86 b] M none M' ∧ M'.1 86 a 0 = M.1 86 b 0 ∧ (∀ j, j < n → M'.1 87 a j = M.1 87 b j ∧ M'.1 88 a j = M.1 88 b j) ∧ K3 (fun c e _ => e = a ∧ 86 ≤ c ∧ c < 89) M M' := by
  have hba : b ≠ a := fun z => hab z.symm
  have f0 : (if Int32.ofNat 20 < iN n then Int32.ofNat 20 else iN n) = iN n := if_neg (fun z => absurd ((iN_lt (by decide) (by omega)).mp z) (by omega))
  obtain ⟨M2, ⟨i1, i2⟩, hV⟩ := for_fwd (n := n) (M := st M 86 a 0 (iN n))
    (I := fun t Mt => (∀ j, j < t → Mt.1 87 a j = M.1 87 b j ∧ Mt.1 88 a j = M.1 88 b j) ∧ K3 (fun c e _ => e = a ∧ (c = 87 ∨ c = 88)) (st M 86 a 0 (iN n)) Mt)
    (St := fun t Mt Q => V X (d + 1) 88 18 [some (vR 86 a), some (vR 86 b), some (vI (iN t))] [] Mt Q)
    (by
      rintro t Mt ht ⟨g1, g2⟩
      refine ⟨st (st Mt 87 a t (M.1 87 b t)) 88 a t (M.1 88 b t), ⟨fun j hj => ?_, k3_trans g2 (k3_trans (k3_st ⟨rfl, Or.inl rfl⟩) (k3_st ⟨rfl, Or.inr rfl⟩))⟩, fun Q hQ => w88_18_86 ?_⟩
      · by_cases hjt : j = t
        · subst hjt
          exact ⟨by rw [st_ne3 (fun z => absurd z.1 (by decide)), st_at], st_at⟩
        · rw [st_ne3 (fun z => absurd z.1 (by decide)), st_ne3 (fun z => hjt z.2.2), st_ne3 (fun z => hjt z.2.2), st_ne3 (fun z => absurd z.1 (by decide))]
          exact g1 j (by omega)
      · simp only [forall_eq, true_implies, false_implies, not_true_eq_false, not_false_eq_true, and_true, true_and, and_self, isB0, isB1, bI_t0, bI_f0, i10_, i20_, i01_, i02_, i12_, i21_, show Mt.1 86 a 0 = iN n by rw [g2 86 a 0 (by omega), st_at], nle_ (a := n) (b := t) (by omega) (by omega) ht, show inb (iN t) 20 from inb_of (by omega) (by decide), ix_of (show t < 2147483648 by omega), show Mt.1 87 b t = M.1 87 b t by rw [g2 87 b t (by omega), st_ne3 (fun z => absurd z.1 (by decide))], show ∀ y, (st Mt 87 a t y).1 88 b t = M.1 88 b t from fun y => by rw [st_ne3 (fun z => absurd z.1 (by decide)), g2 88 b t (by omega), st_ne3 (fun z => absurd z.1 (by decide))], iN_step]
        exact hQ)
    ⟨fun j hj => absurd hj (by omega), k3_refl⟩
  have c0 : M2.1 86 a 0 = iN n := by rw [i2 86 a 0 (by omega), st_at]
  refine ⟨M2, e88_86 (w88_0_86 ?_), by rw [c0, h], i1, k3_trans (k3_st ⟨rfl, by decide, by decide⟩) (k3_sub i2 (fun c e j z => by omega))⟩
  rw [h, f0]
  rintro M1 rfl
  refine hV _ (w88_18_86 ?_)
  simp only [forall_eq, true_implies, false_implies, not_true_eq_false, not_false_eq_true, and_true, true_and, and_self, isB0, isB1, bI_t0, bI_f0, i10_, i20_, i01_, i02_, i12_, i21_, c0, yle_ (a := n) (b := n) (by omega) (by omega) (Nat.le_refl _)]
theorem c88_89 {X : Cx} {d : Nat} {M : Mem} {a b n : Nat} (hab : a ≠ b) (hn : n ≤ 8) (h : M.1 89 b 0 = iN n) : ∃ M', CC X (d + 1) 88 [vR 89 a, vR 89 b] M none M' ∧ M'.1 89 a 0 = M.1 89 b 0 ∧ (∀ j, j < n → M'.1 90 a j = M.1 90 b j ∧ M'.1 91 a j = M.1 91 b j) ∧ K3 (fun c e _ => e = a ∧ 89 ≤ c ∧ c < 92) M M' := by
  have hba : b ≠ a := fun z => hab z.symm
  have f0 : (if Int32.ofNat 8 < iN n then Int32.ofNat 8 else iN n) = iN n := if_neg (fun z => absurd ((iN_lt (by decide) (by omega)).mp z) (by omega))
  obtain ⟨M2, ⟨i1, i2⟩, hV⟩ := for_fwd (n := n) (M := st M 89 a 0 (iN n))
    (I := fun t Mt => (∀ j, j < t → Mt.1 90 a j = M.1 90 b j ∧ Mt.1 91 a j = M.1 91 b j) ∧ K3 (fun c e _ => e = a ∧ (c = 90 ∨ c = 91)) (st M 89 a 0 (iN n)) Mt)
    (St := fun t Mt Q => V X (d + 1) 88 18 [some (vR 89 a), some (vR 89 b), some (vI (iN t))] [] Mt Q)
    (by
      rintro t Mt ht ⟨g1, g2⟩
      refine ⟨st (st Mt 90 a t (M.1 90 b t)) 91 a t (M.1 91 b t), ⟨fun j hj => ?_, k3_trans g2 (k3_trans (k3_st ⟨rfl, Or.inl rfl⟩) (k3_st ⟨rfl, Or.inr rfl⟩))⟩, fun Q hQ => w88_18_89 ?_⟩
      · by_cases hjt : j = t
        · subst hjt
          exact ⟨by rw [st_ne3 (fun z => absurd z.1 (by decide)), st_at], st_at⟩
        · rw [st_ne3 (fun z => absurd z.1 (by decide)), st_ne3 (fun z => hjt z.2.2), st_ne3 (fun z => hjt z.2.2), st_ne3 (fun z => absurd z.1 (by decide))]
          exact g1 j (by omega)
      · simp only [forall_eq, true_implies, false_implies, not_true_eq_false, not_false_eq_true, and_true, true_and, and_self, isB0, isB1, bI_t0, bI_f0, i10_, i20_, i01_, i02_, i12_, i21_, show Mt.1 89 a 0 = iN n by rw [g2 89 a 0 (by omega), st_at], nle_ (a := n) (b := t) (by omega) (by omega) ht, show inb (iN t) 8 from inb_of (by omega) (by decide), ix_of (show t < 2147483648 by omega), show Mt.1 90 b t = M.1 90 b t by rw [g2 90 b t (by omega), st_ne3 (fun z => absurd z.1 (by decide))], show ∀ y, (st Mt 90 a t y).1 91 b t = M.1 91 b t from fun y => by rw [st_ne3 (fun z => absurd z.1 (by decide)), g2 91 b t (by omega), st_ne3 (fun z => absurd z.1 (by decide))], iN_step]
        exact hQ)
    ⟨fun j hj => absurd hj (by omega), k3_refl⟩
  have c0 : M2.1 89 a 0 = iN n := by rw [i2 89 a 0 (by omega), st_at]
  refine ⟨M2, e88_89 (w88_0_89 ?_), by rw [c0, h], i1, k3_trans (k3_st ⟨rfl, by decide, by decide⟩) (k3_sub i2 (fun c e j z => by omega))⟩
  rw [h, f0]
  rintro M1 rfl
  refine hV _ (w88_18_89 ?_)
  simp only [forall_eq, true_implies, false_implies, not_true_eq_false, not_false_eq_true, and_true, true_and, and_self, isB0, isB1, bI_t0, bI_f0, i10_, i20_, i01_, i02_, i12_, i21_, c0, yle_ (a := n) (b := n) (by omega) (by omega) (Nat.le_refl _)]
theorem c88_92 {X : Cx} {d : Nat} {M : Mem} {a b n : Nat} (hab : a ≠ b) (hn : n ≤ 12) (h : M.1 92 b 0 = iN n) : ∃ M', CC X (d + 1) 88 [vR 92 a, vR 92 b] M none M' ∧ M'.1 92 a 0 = M.1 92 b 0 ∧ (∀ j, j < n → M'.1 93 a j = M.1 93 b j ∧ M'.1 94 a j = M.1 94 b j) ∧ K3 (fun c e _ => e = a ∧ 92 ≤ c ∧ c < 95) M M' := by
  have hba : b ≠ a := fun z => hab z.symm
  have f0 : (if Int32.ofNat 12 < iN n then Int32.ofNat 12 else iN n) = iN n := if_neg (fun z => absurd ((iN_lt (by decide) (by omega)).mp z) (by omega))
  obtain ⟨M2, ⟨i1, i2⟩, hV⟩ := for_fwd (n := n) (M := st M 92 a 0 (iN n))
    (I := fun t Mt => (∀ j, j < t → Mt.1 93 a j = M.1 93 b j ∧ Mt.1 94 a j = M.1 94 b j) ∧ K3 (fun c e _ => e = a ∧ (c = 93 ∨ c = 94)) (st M 92 a 0 (iN n)) Mt)
    (St := fun t Mt Q => V X (d + 1) 88 18 [some (vR 92 a), some (vR 92 b), some (vI (iN t))] [] Mt Q)
    (by
      rintro t Mt ht ⟨g1, g2⟩
      refine ⟨st (st Mt 93 a t (M.1 93 b t)) 94 a t (M.1 94 b t), ⟨fun j hj => ?_, k3_trans g2 (k3_trans (k3_st ⟨rfl, Or.inl rfl⟩) (k3_st ⟨rfl, Or.inr rfl⟩))⟩, fun Q hQ => w88_18_92 ?_⟩
      · by_cases hjt : j = t
        · subst hjt
          exact ⟨by rw [st_ne3 (fun z => absurd z.1 (by decide)), st_at], st_at⟩
        · rw [st_ne3 (fun z => absurd z.1 (by decide)), st_ne3 (fun z => hjt z.2.2), st_ne3 (fun z => hjt z.2.2), st_ne3 (fun z => absurd z.1 (by decide))]
          exact g1 j (by omega)
      · simp only [forall_eq, true_implies, false_implies, not_true_eq_false, not_false_eq_true, and_true, true_and, and_self, isB0, isB1, bI_t0, bI_f0, i10_, i20_, i01_, i02_, i12_, i21_, show Mt.1 92 a 0 = iN n by rw [g2 92 a 0 (by omega), st_at], nle_ (a := n) (b := t) (by omega) (by omega) ht, show inb (iN t) 12 from inb_of (by omega) (by decide), ix_of (show t < 2147483648 by omega), show Mt.1 93 b t = M.1 93 b t by rw [g2 93 b t (by omega), st_ne3 (fun z => absurd z.1 (by decide))], show ∀ y, (st Mt 93 a t y).1 94 b t = M.1 94 b t from fun y => by rw [st_ne3 (fun z => absurd z.1 (by decide)), g2 94 b t (by omega), st_ne3 (fun z => absurd z.1 (by decide))], iN_step]
        exact hQ)
    ⟨fun j hj => absurd hj (by omega), k3_refl⟩
  have c0 : M2.1 92 a 0 = iN n := by rw [i2 92 a 0 (by omega), st_at]
  refine ⟨M2, e88_92 (w88_0_92 ?_), by rw [c0, h], i1, k3_trans (k3_st ⟨rfl, by decide, by decide⟩) (k3_sub i2 (fun c e j z => by omega))⟩
  rw [h, f0]
  rintro M1 rfl
  refine hV _ (w88_18_92 ?_)
  simp only [forall_eq, true_implies, false_implies, not_true_eq_false, not_false_eq_true, and_true, true_and, and_self, isB0, isB1, bI_t0, bI_f0, i10_, i20_, i01_, i02_, i12_, i21_, c0, yle_ (a := n) (b := n) (by omega) (by omega) (Nat.le_refl _)]
theorem c71 {X : Cx} {d : Nat} {M : Mem} {a b n1 n2 n3 n4 n5 : Nat} (hab : a ≠ b) (q1 : n1 ≤ 10) (q2 : n2 ≤ 10) (q3 : n3 ≤ 20) (q4 : n4 ≤ 8) (q5 : n5 ≤ 12) (h1 : M.1 80 b 0 = iN n1) (h2 : M.1 83 b 0 = iN n2) (h3 : M.1 86 b 0 = iN n3) (h4 : M.1 89 b 0 = iN n4) (h5 : M.1 92 b 0 = iN n5) :
    ∃ M', CC X (d + 2) 71 [vR 70 a, vR 70 b] M none M' ∧ (∀ j, j < 6 → M'.1 71 a j = M.1 71 b j) ∧ (∀ j, j < 8 → M'.1 72 a j = M.1 72 b j) ∧
      (M'.1 80 a 0 = M.1 80 b 0 ∧ ∀ j, j < n1 → M'.1 81 a j = M.1 81 b j ∧ M'.1 82 a j = M.1 82 b j) ∧ (M'.1 83 a 0 = M.1 83 b 0 ∧ ∀ j, j < n2 → M'.1 84 a j = M.1 84 b j ∧ M'.1 85 a j = M.1 85 b j) ∧ (M'.1 86 a 0 = M.1 86 b 0 ∧ ∀ j, j < n3 → M'.1 87 a j = M.1 87 b j ∧ M'.1 88 a j = M.1 88 b j) ∧ (M'.1 89 a 0 = M.1 89 b 0 ∧ ∀ j, j < n4 → M'.1 90 a j = M.1 90 b j ∧ M'.1 91 a j = M.1 91 b j) ∧ (M'.1 92 a 0 = M.1 92 b 0 ∧ ∀ j, j < n5 → M'.1 93 a j = M.1 93 b j ∧ M'.1 94 a j = M.1 94 b j) ∧ K3 (fun c e _ => e = a ∧ ((71 ≤ c ∧ c < 73) ∨ (80 ≤ c ∧ c < 95))) M M' := by
  have hba : b ≠ a := fun z => hab z.symm
  obtain ⟨M0, hM0⟩ : ∃ M0, M0 = cpy (cpy M 71 b 71 a 0 0 6) 72 b 72 a 0 0 8 := ⟨_, rfl⟩
  have z0 : ∀ c j, M0.1 c b j = M.1 c b j := fun c j => by rw [hM0, cpy_c (fun z => hba z.2), cpy_c (fun z => hba z.2)]
  have k0 : K3 (fun c e _ => e = a ∧ 71 ≤ c ∧ c < 73) M M0 := by
    rw [hM0]
    exact k3_trans (k3_cpy (fun _ => ⟨rfl, by decide, by decide⟩)) (k3_cpy (fun _ => ⟨rfl, by decide, by decide⟩))
  obtain ⟨M1, a1, a2, a3, a4⟩ := c88_80 (X := X) (d := d) (M := M0) hab q1 (by rw [z0]; exact h1)
  have z1 : ∀ c j, M1.1 c b j = M.1 c b j := fun c j => by rw [a4 c b j (fun z => hba z.1), z0]
  obtain ⟨M2, b1, b2, b3, b4⟩ := c88_83 (X := X) (d := d) (M := M1) hab q2 (by rw [z1]; exact h2)
  have z2 : ∀ c j, M2.1 c b j = M.1 c b j := fun c j => by rw [b4 c b j (fun z => hba z.1), z1]
  obtain ⟨M3, d1, d2, d3, d4⟩ := c88_86 (X := X) (d := d) (M := M2) hab q3 (by rw [z2]; exact h3)
  have z3 : ∀ c j, M3.1 c b j = M.1 c b j := fun c j => by rw [d4 c b j (fun z => hba z.1), z2]
  obtain ⟨M4, f1, f2, f3, f4⟩ := c88_89 (X := X) (d := d) (M := M3) hab q4 (by rw [z3]; exact h4)
  have z4 : ∀ c j, M4.1 c b j = M.1 c b j := fun c j => by rw [f4 c b j (fun z => hba z.1), z3]
  obtain ⟨M5, g1, g2, g3, g4⟩ := c88_92 (X := X) (d := d) (M := M4) hab q5 (by rw [z4]; exact h5)
  have up1 : ∀ c j, c < 83 → M5.1 c a j = M1.1 c a j := fun c j hc => by rw [g4 c a j (by omega), f4 c a j (by omega), d4 c a j (by omega), b4 c a j (by omega)]
  have up2' : ∀ c j, c < 86 → M5.1 c a j = M2.1 c a j := fun c j hc => by rw [g4 c a j (by omega), f4 c a j (by omega), d4 c a j (by omega)]
  have up3 : ∀ c j, c < 89 → M5.1 c a j = M3.1 c a j := fun c j hc => by rw [g4 c a j (by omega), f4 c a j (by omega)]
  have up4 : ∀ c j, c < 92 → M5.1 c a j = M4.1 c a j := fun c j hc => by rw [g4 c a j (by omega)]
  refine ⟨M5, e71 (w71_0 ?_), fun j hj => ?_, fun j hj => ?_, ⟨by rw [up1 _ _ (by decide), a2, z0], fun j hj => by rw [up1 _ _ (by decide), up1 _ _ (by decide), (a3 j hj).1, (a3 j hj).2, z0, z0]; exact ⟨rfl, rfl⟩⟩, ⟨by rw [up2' _ _ (by decide), b2, z1], fun j hj => by rw [up2' _ _ (by decide), up2' _ _ (by decide), (b3 j hj).1, (b3 j hj).2, z1, z1]; exact ⟨rfl, rfl⟩⟩, ⟨by rw [up3 _ _ (by decide), d2, z2], fun j hj => by rw [up3 _ _ (by decide), up3 _ _ (by decide), (d3 j hj).1, (d3 j hj).2, z2, z2]; exact ⟨rfl, rfl⟩⟩, ⟨by rw [up4 _ _ (by decide), f2, z3], fun j hj => by rw [up4 _ _ (by decide), up4 _ _ (by decide), (f3 j hj).1, (f3 j hj).2, z3, z3]; exact ⟨rfl, rfl⟩⟩, ⟨by rw [g2, z4], fun j hj => by rw [(g3 j hj).1, (g3 j hj).2, z4, z4]; exact ⟨rfl, rfl⟩⟩, ?_⟩
  · simp only [forall_eq, true_implies, false_implies, not_true_eq_false, not_false_eq_true, and_true, true_and, and_self, isB0, isB1, bI_t0, bI_f0, i10_, i20_, i01_, i02_, i12_, i21_, show ix 0 = 0 from ix_l (by decide), show ix 6 = 6 from ix_l (by decide), show ix 8 = 8 from ix_l (by decide), show ((0 : Int32) < 0) = False from by decide, show ((6 : Int32) < 0) = False from by decide, show ((8 : Int32) < 0) = False from by decide, Nat.zero_add, Nat.le_refl]
    rw [← hM0]
    exact ⟨_, a1, _, b1, _, d1, _, f1, _, g1, rfl⟩
  · rw [up1 _ _ (by decide), a4 71 a j (by omega), hM0, cpy_c (fun z => absurd z.1 (by decide)), cpy_a hj]
  · rw [up1 _ _ (by decide), a4 72 a j (by omega), hM0, cpy_a hj, cpy_c (fun z => absurd z.1 (by decide))]
  · exact k3_trans (k3_trans (k3_trans (k3_trans (k3_trans (k3_sub k0 (fun c e j z => ⟨z.1, by omega⟩)) (k3_sub a4 (fun c e j z => ⟨z.1, by omega⟩))) (k3_sub b4 (fun c e j z => ⟨z.1, by omega⟩))) (k3_sub d4 (fun c e j z => ⟨z.1, by omega⟩))) (k3_sub f4 (fun c e j z => ⟨z.1, by omega⟩))) (k3_sub g4 (fun c e j z => ⟨z.1, by omega⟩))
