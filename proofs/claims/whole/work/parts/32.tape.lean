/-! the tape: fault, end, feed -/
def TapeR (M : Mem) : Prop := ∃ n : Nat, n ≤ 400 ∧ M.1 3 0 7 = iN n ∧ M.1 100 0 16 = iN n ∧ ∀ j, j < n → ∃ b : Nat, b < 256 ∧ M.1 4 0 j = iN b ∧ M.1 108 0 j = iN b
/-- fault, both -/
theorem op110 {X : Cx} {d : Nat} {M : Mem} {q : Int32} (h1 : M.1 3 0 13 = M.1 100 0 23) (h2 : M.1 3 0 14 = M.1 100 0 25) : ∃ (x : Int32), CC X (d + 1) 110 [vR 2 0, vI q] M (some (vI x)) M ∧ CC X (d + 1) 201 [vR 100 0, vI q] M (some (vI x)) M := by
  by_cases q0 : q = 0
  · refine ⟨M.1 100 0 23, e110 (w110_0 ?_), e201 (w201_0 ?_)⟩
    · simp only [forall_eq, true_implies, false_implies, not_true_eq_false, not_false_eq_true, and_true, true_and, and_self, isB0, isB1, bI_t0, bI_f0, i10_, i20_, i01_, i02_, i12_, i21_, q0, h1]
    · simp only [forall_eq, true_implies, false_implies, not_true_eq_false, not_false_eq_true, and_true, true_and, and_self, isB0, isB1, bI_t0, bI_f0, i10_, i20_, i01_, i02_, i12_, i21_, q0]
  · by_cases q1 : q = 1
    · refine ⟨M.1 100 0 25, e110 (w110_0 ?_), e201 (w201_0 ?_)⟩
      · simp only [forall_eq, true_implies, false_implies, not_true_eq_false, not_false_eq_true, and_true, true_and, and_self, isB0, isB1, bI_t0, bI_f0, i10_, i20_, i01_, i02_, i12_, i21_, q1, h2]
      · simp only [forall_eq, true_implies, false_implies, not_true_eq_false, not_false_eq_true, and_true, true_and, and_self, isB0, isB1, bI_t0, bI_f0, i10_, i20_, i01_, i02_, i12_, i21_, q1]
    · refine ⟨-1, e110 (w110_0 ?_), e201 (w201_0 ?_)⟩
      · simp only [forall_eq, true_implies, false_implies, not_true_eq_false, not_false_eq_true, and_true, true_and, and_self, isB0, isB1, bI_t0, bI_f0, i10_, i20_, i01_, i02_, i12_, i21_, q0, q1]
      · simp only [forall_eq, true_implies, false_implies, not_true_eq_false, not_false_eq_true, and_true, true_and, and_self, isB0, isB1, bI_t0, bI_f0, i10_, i20_, i01_, i02_, i12_, i21_, q0, q1]
/-- end, both -/
theorem op108 {X : Cx} {d : Nat} {M : Mem} {q : Int32} (h : TapeR M) : ∃ (x : Int32) (M1 M2 : Mem), CC X (d + 2) 108 [vR 2 0, vI q] M (some (vI x)) M1 ∧ CC X (d + 2) 167 [vR 100 0, vI q] M1 (some (vI x)) M2 ∧ TapeR M2 ∧ K3 (fun c a j => (c = 3 ∧ a = 0 ∧ j = 7) ∨ (c = 100 ∧ a = 0 ∧ j = 16)) M M2 := by
  obtain ⟨n, hn, n1, n2, hb⟩ := h
  by_cases hq : inR q 0 (iN n) = true
  · obtain ⟨k, rfl, hk⟩ := inR_iN (by omega) hq
    refine ⟨1, st M 3 0 7 (iN k), st (st M 3 0 7 (iN k)) 100 0 16 (iN k), e108 (w108_0 ?_), e167 (w167_0 ?_), ⟨k, by omega, ?_, ?_, fun j hj => ?_⟩, k3_trans (k3_st (Or.inl ⟨rfl, rfl, rfl⟩)) (k3_st (Or.inr ⟨rfl, rfl, rfl⟩))⟩
    · simp only [forall_eq, true_implies, false_implies, not_true_eq_false, not_false_eq_true, and_true, true_and, and_self, isB0, isB1, bI_t0, bI_f0, i10_, i20_, i01_, i02_, i12_, i21_, n1, show (iN k < 0) = False from eq_false (fun z => absurd (Int32.not_lt.mpr (iN_nn (n := k) (by omega))) (fun y => y z)), (iN_le (show k < 2147483648 by omega) (show n < 2147483648 by omega)).mpr hk]
    · refine ⟨_, _, c151, ?_⟩
      rw [st_ne3 (fun z => absurd z.1 (by decide)), n2, hq]
      simp only [forall_eq, true_implies, false_implies, not_true_eq_false, not_false_eq_true, and_true, true_and, and_self, isB0, isB1, bI_t0, bI_f0, i10_, i20_, i01_, i02_, i12_, i21_]
    · simp [st_rd]
    · simp [st_rd]
    · obtain ⟨b, h1, h2, h3⟩ := hb j (by omega)
      exact ⟨b, h1, by simp [st_rd]; exact h2, by simp [st_rd]; exact h3⟩
  · have hq : inR q 0 (iN n) = false := by simpa using hq
    refine ⟨0, M, M, e108 (w108_0 ?_), e167 (w167_0 ?_), ⟨n, hn, n1, n2, hb⟩, k3_refl⟩
    · refine ⟨fun _ => ⟨isB0, rfl, rfl⟩, fun z => ⟨fun y => absurd hq ?_, fun _ => ⟨isB0, rfl, rfl⟩⟩⟩
      rw [n1] at y
      have : inR q 0 (iN n) = true := by
        simp only [inR, Bool.and_eq_true, decide_eq_true_eq]
        exact ⟨Int32.not_lt.mp z, y⟩
      rw [this]
      decide
    · refine ⟨_, _, c151, ?_⟩
      rw [n2, hq]
      simp only [forall_eq, true_implies, false_implies, not_true_eq_false, not_false_eq_true, and_true, true_and, and_self, isB0, isB1, bI_t0, bI_f0, i10_, i20_, i01_, i02_, i12_, i21_]
/-- byte k of a number, from the top -/
def byt (x : Int32) (k : Nat) : Int32 := (x >>> ((24 - 8 * (iN k % 4)) &&& 31)) &&& 255
theorem and255 (y : Int32) : ∃ b : Nat, b < 256 ∧ y &&& 255 = iN b := by
  refine ⟨(y.toBitVec &&& 255#32).toNat, ?_, ?_⟩
  · rw [BitVec.toNat_and]
    exact Nat.lt_of_le_of_lt Nat.and_le_right (by decide)
  · apply Int32.toBitVec.inj
    show y.toBitVec &&& 255#32 = BitVec.ofNat 32 (y.toBitVec &&& 255#32).toNat
    rw [BitVec.ofNat_toNat, BitVec.setWidth_eq]
theorem byt_u (x : Int32) (s : Nat) (hs : s = 24 ∨ s = 16 ∨ s = 8 ∨ s = 0) : ((x.toUInt32 >>> (Int32.toUInt32 (iN s) &&& Int32.toUInt32 31)).toInt32) &&& 255 = (x >>> (iN s &&& 31)) &&& 255 := by
  apply Int32.toBitVec.inj
  apply BitVec.eq_of_getLsbD_eq
  intro i hi
  have a1 : (((x.toUInt32 >>> (Int32.toUInt32 (iN s) &&& Int32.toUInt32 31)).toInt32) &&& 255).toBitVec = (x.toBitVec >>> s) &&& 255#32 := by
    rcases hs with rfl | rfl | rfl | rfl <;> rfl
  have a2 : ((x >>> (iN s &&& 31)) &&& 255).toBitVec = (x.toBitVec.sshiftRight s) &&& 255#32 := by
    rcases hs with rfl | rfl | rfl | rfl <;> rfl
  rw [a1, a2, BitVec.getLsbD_and, BitVec.getLsbD_and, BitVec.getLsbD_ushiftRight, BitVec.getLsbD_sshiftRight]
  by_cases h8 : i < 8
  · have : ¬ 32 ≤ i := by omega
    have h2 : s + i < 32 := by omega
    simp [this, h2]
  · have : (255#32).getLsbD i = false := by
      rw [BitVec.getLsbD_ofNat]
      have : Nat.testBit 255 i = false := Nat.testBit_lt_two_pow (Nat.lt_of_lt_of_le (by decide : 255 < 2 ^ 8) (Nat.pow_le_pow_right (by decide) (by omega)))
      simp [this]
    simp [this]
theorem c23 {X : Cx} {d : Nat} {M : Mem} {n : Nat} {x : Int32} (hn : n + 4 ≤ 400) (h : M.1 3 0 7 = iN n) : ∃ M', CC X (d + 1) 23 [vR 3 0, vI x] M none M' ∧ M'.1 3 0 7 = iN (n + 4) ∧ (∀ i, i < 4 → M'.1 4 0 (n + i) = byt x i) ∧ (∀ j, j < n → M'.1 4 0 j = M.1 4 0 j) ∧ K3 (fun c a j => (c = 3 ∧ a = 0 ∧ j = 7) ∨ (c = 4 ∧ a = 0 ∧ n ≤ j)) M M' := by
  have step : ∀ (k : Nat) (s : Int32) (Mk : Mem) (Q : Option Vl → Mem → Prop), k < 4 → s = 24 - 8 * iN k → Mk.1 3 0 7 = iN (n + k) → V X (d + 1) 23 3 [some (vR 3 0), some (vI x), some (vI (s + (-8)))] [] (st (st Mk 4 0 (n + k) (byt x k)) 3 0 7 (iN (n + k + 1))) Q → V X (d + 1) 23 3 [some (vR 3 0), some (vI x), some (vI s)] [] Mk Q := by
    intro k s Mk Q hk hs hm hV
    refine w23_3 ?_
    have e1 : (((x.toUInt32 >>> (Int32.toUInt32 s &&& Int32.toUInt32 31)).toInt32) &&& 255) = byt x k := by
      rw [hs]
      rcases (show k = 0 ∨ k = 1 ∨ k = 2 ∨ k = 3 by omega) with rfl | rfl | rfl | rfl
      · exact byt_u x 24 (by decide)
      · exact byt_u x 16 (by decide)
      · exact byt_u x 8 (by decide)
      · exact byt_u x 0 (by decide)
    have e2 : (s < 0) = False := by
      rw [hs]
      rcases (show k = 0 ∨ k = 1 ∨ k = 2 ∨ k = 3 by omega) with rfl | rfl | rfl | rfl <;> decide
    have e3 : (400 ≤ iN (n + k)) = False := eq_false (fun z => absurd ((iN_le (a := 400) (by decide) (by omega)).mp z) (by omega))
    simp only [forall_eq, true_implies, false_implies, not_true_eq_false, not_false_eq_true, and_true, true_and, and_self, isB0, isB1, bI_t0, bI_f0, i10_, i20_, i01_, i02_, i12_, i21_, hm, e1, e2, e3, show inb (iN (n + k)) 400 from inb_of (by omega) (by decide), ix_of (show n + k < 2147483648 by omega)]
    rw [st_ne3 (fun z => absurd z.1 (by decide)), hm, iN_step]
    exact hV
  refine ⟨st (st (st (st (st (st (st (st M 4 0 (n + 0) (byt x 0)) 3 0 7 (iN (n + 0 + 1))) 4 0 (n + 1) (byt x 1)) 3 0 7 (iN (n + 1 + 1))) 4 0 (n + 2) (byt x 2)) 3 0 7 (iN (n + 2 + 1))) 4 0 (n + 3) (byt x 3)) 3 0 7 (iN (n + 3 + 1)), e23 (w23_0 (step 0 24 _ _ (by decide) (by decide) h ?_)), st_at, ?_, ?_, ?_⟩
  · refine step 1 _ _ _ (by decide) (by decide) st_at ?_
    refine step 2 _ _ _ (by decide) (by decide) st_at ?_
    refine step 3 _ _ _ (by decide) (by decide) st_at ?_
    refine w23_3 ?_
    simp only [forall_eq, true_implies, false_implies, not_true_eq_false, not_false_eq_true, and_true, true_and, and_self, isB0, isB1, bI_t0, bI_f0, i10_, i20_, i01_, i02_, i12_, i21_, show (((24 : Int32) + -8 + -8 + -8 + -8 < 0) = True) from by decide]
  · intro i hi
    rcases (show i = 0 ∨ i = 1 ∨ i = 2 ∨ i = 3 by omega) with rfl | rfl | rfl | rfl <;> simp [st_rd]
  · intro j hj
    simp [st_rd, show j ≠ n by omega, show j ≠ n + 1 by omega, show j ≠ n + 2 by omega, show j ≠ n + 3 by omega]
  · exact k3_trans (k3_trans (k3_trans (k3_trans (k3_trans (k3_trans (k3_trans (k3_st (by simp)) (k3_st (by simp))) (k3_st (by simp))) (k3_st (by simp))) (k3_st (by simp))) (k3_st (by simp))) (k3_st (by simp))) (k3_st (by simp))
/-- byte t of five numbers -/
def by20 (a b c e f : Int32) (t : Nat) : Int32 := byt (if t < 4 then a else if t < 8 then b else if t < 12 then c else if t < 16 then e else f) (t % 4)
theorem byt_m (x : Int32) (t : Nat) (h : t < 20) : (x >>> ((24 - (8 * (iN t % 4))) &&& 31)) &&& 255 = byt x (t % 4) := by
  unfold byt
  rw [show (iN t % 4 : Int32) = iN (t % 4) % 4 from by rw [iN_lit 4, iN_mod (by omega) (by decide) (by decide), iN_mod (by omega) (by decide) (by decide), Nat.mod_mod]]
/-- feed, both -/
theorem op107 {X : Cx} {d : Nat} {M : Mem} {a b c e f : Int32} (h : TapeR M) : ∃ (x : Int32) (M1 M2 : Mem), CC X (d + 2) 107 [vR 2 0, vI a, vI b, vI c, vI e, vI f] M (some (vI x)) M1 ∧ CC X (d + 2) 166 [vR 100 0, vI a, vI b, vI c, vI e, vI f] M1 (some (vI x)) M2 ∧ TapeR M2 ∧ K3 (fun c a j => (c = 3 ∧ a = 0 ∧ j = 7) ∨ (c = 4 ∧ a = 0) ∨ (c = 100 ∧ a = 0 ∧ j = 16) ∨ (c = 108 ∧ a = 0)) M M2 := by
  obtain ⟨n, hn, n1, n2, hb⟩ := h
  have e20 : iN n + 20 = iN (n + 20) := by simp only [iN_lit, iN_add]
  by_cases hlt : n + 20 ≤ 400
  · have hle : (iN (n + 20) ≤ 400) := (iN_le (b := 400) (by omega) (by decide)).mpr hlt
    obtain ⟨A1, p1, q1, r1, s1, k1⟩ := c23 (X := X) (d := d) (M := M) (n := n) (x := a) (by omega) n1
    obtain ⟨A2, p2, q2, r2, s2, k2⟩ := c23 (X := X) (d := d) (M := A1) (n := n + 4) (x := b) (by omega) q1
    obtain ⟨A3, p3, q3, r3, s3, k3⟩ := c23 (X := X) (d := d) (M := A2) (n := n + 4 + 4) (x := c) (by omega) q2
    obtain ⟨A4, p4, q4, r4, s4, k4⟩ := c23 (X := X) (d := d) (M := A3) (n := n + 4 + 4 + 4) (x := e) (by omega) q3
    obtain ⟨A5, p5, q5, r5, s5, k5⟩ := c23 (X := X) (d := d) (M := A4) (n := n + 4 + 4 + 4 + 4) (x := f) (by omega) q4
    have kA : K3 (fun c a j => (c = 3 ∧ a = 0 ∧ j = 7) ∨ (c = 4 ∧ a = 0)) M A5 := by
      have hs : ∀ {m : Nat} {N N' : Mem}, K3 (fun c a j => (c = 3 ∧ a = 0 ∧ j = 7) ∨ (c = 4 ∧ a = 0 ∧ m ≤ j)) N N' → K3 (fun c a j => (c = 3 ∧ a = 0 ∧ j = 7) ∨ (c = 4 ∧ a = 0)) N N' := fun hh => k3_sub hh (fun c a j z => z.imp id (fun y => ⟨y.1, y.2.1⟩))
      exact k3_trans (k3_trans (k3_trans (k3_trans (hs k1) (hs k2)) (hs k3)) (hs k4)) (hs k5)
    have cA : ∀ t, t < 20 → A5.1 4 0 (n + t) = by20 a b c e f t := by
      intro t ht
      unfold by20
      by_cases h1 : t < 4
      · rw [if_pos h1, s5 _ (by omega), s4 _ (by omega), s3 _ (by omega), s2 _ (by omega), r1 t h1, Nat.mod_eq_of_lt h1]
      · rw [if_neg h1]
        by_cases h2 : t < 8
        · rw [if_pos h2, s5 _ (by omega), s4 _ (by omega), s3 _ (by omega), show n + t = n + 4 + (t % 4) by omega, r2 _ (by omega)]
        · rw [if_neg h2]
          by_cases h3 : t < 12
          · rw [if_pos h3, s5 _ (by omega), s4 _ (by omega), show n + t = n + 4 + 4 + (t % 4) by omega, r3 _ (by omega)]
          · rw [if_neg h3]
            by_cases h4 : t < 16
            · rw [if_pos h4, s5 _ (by omega), show n + t = n + 4 + 4 + 4 + (t % 4) by omega, r4 _ (by omega)]
            · rw [if_neg h4, show n + t = n + 4 + 4 + 4 + 4 + (t % 4) by omega, r5 _ (by omega)]
    have oA : ∀ j, j < n → A5.1 4 0 j = M.1 4 0 j := fun j hj => by rw [s5 _ (by omega), s4 _ (by omega), s3 _ (by omega), s2 _ (by omega), s1 _ hj]
    have n3 : A5.1 100 0 16 = iN n := by rw [kA 100 0 16 (by omega)]; exact n2
    obtain ⟨M2, ⟨i1, i2, i3, i4⟩, hV⟩ := for_fwd (n := 20) (M := A5)
      (I := fun t Mt => Mt.1 100 0 16 = iN (n + t) ∧ (∀ i, i < t → Mt.1 108 0 (n + i) = by20 a b c e f i) ∧ (∀ j, j < n → Mt.1 108 0 j = A5.1 108 0 j) ∧ K3 (fun c a j => (c = 100 ∧ a = 0 ∧ j = 16) ∨ (c = 108 ∧ a = 0)) A5 Mt)
      (St := fun t Mt Q => V X (d + 2) 166 18 [some (vR 100 0), some (vI a), some (vI b), some (vI c), some (vI e), some (vI f), some (vI (iN t)), none] [] Mt Q)
      (by
        rintro t Mt ht ⟨g1, g2, g3, g4⟩
        refine ⟨st (st Mt 108 0 (n + t) (by20 a b c e f t)) 100 0 16 (iN (n + t + 1)), ⟨st_at, fun i hi => ?_, fun j hj => ?_, ?_⟩, fun Q hQ => w166_18 ?_⟩
        · by_cases hit : i = t
          · subst hit
            simp [st_rd]
          · rw [st_ne3 (fun z => absurd z.1 (by decide)), st_ne3 (by omega)]
            exact g2 i (by omega)
        · rw [st_ne3 (fun z => absurd z.1 (by decide)), st_ne3 (by omega)]
          exact g3 j hj
        · exact k3_trans (k3_trans g4 (k3_st (by simp))) (k3_st (by simp))
        · have hi : inb (iN (n + t)) 400 := inb_of (by omega) (by decide)
          have g5 : ∀ y : Int32, (st Mt 108 0 (n + t) y).1 100 0 16 = iN (n + t) := fun y => by rw [st_ne3 (fun z => absurd z.1 (by decide))]; exact g1
          have l20 : (20 ≤ iN t) = False := eq_false (fun z => absurd ((iN_le (a := 20) (by decide) (by omega)).mp z) (by omega))
          have l4 : (4 ≤ iN t) = (4 ≤ t) := propext (iN_le (a := 4) (by decide) (by omega))
          have l8 : (8 ≤ iN t) = (8 ≤ t) := propext (iN_le (a := 8) (by decide) (by omega))
          have l12 : (12 ≤ iN t) = (12 ≤ t) := propext (iN_le (a := 12) (by decide) (by omega))
          have l16 : (16 ≤ iN t) = (16 ≤ t) := propext (iN_le (a := 16) (by decide) (by omega))
          have n40 : ((4 : Int32) = 0) = False := by decide
          rw [← iN_step t, show iN (n + t + 1) = iN (n + t) + 1 from (iN_step _).symm] at hQ
          unfold by20 at hQ
          simp only [forall_eq, true_implies, false_implies, not_true_eq_false, not_false_eq_true, and_true, true_and, and_self, isB0, isB1, bI_t0, bI_f0, i10_, i20_, i01_, i02_, i12_, i21_, l20, l4, l8, l12, l16, n40, g1, hi, ix_of (show n + t < 2147483648 by omega), g5, byt_m _ t ht]
          refine ⟨fun h4 => ⟨fun h8 => ⟨fun h12 => ⟨fun h16 => ?_, fun h16 => ?_⟩, fun h12 => ?_⟩, fun h8 => ?_⟩, fun h4 => ?_⟩
          · rw [if_neg (by omega), if_neg (by omega), if_neg (by omega), if_neg (by omega)] at hQ
            exact hQ
          · rw [if_neg (by omega), if_neg (by omega), if_neg (by omega), if_pos (by omega)] at hQ
            exact hQ
          · rw [if_neg (by omega), if_neg (by omega), if_pos (by omega)] at hQ
            exact hQ
          · rw [if_neg (by omega), if_pos (by omega)] at hQ
            exact hQ
          · rw [if_pos (by omega)] at hQ
            exact hQ)
      ⟨n3, fun i hi => absurd hi (by omega), fun j _ => rfl, k3_refl⟩
    refine ⟨iN (n + 20), A5, M2, e107 (w107_0 ?_), e166 (w166_0 ?_), ⟨n + 20, hlt, ?_, i1, fun j hj => ?_⟩, ?_⟩
    · simp only [forall_eq, true_implies, false_implies, not_true_eq_false, not_false_eq_true, and_true, true_and, and_self, isB0, isB1, bI_t0, bI_f0, i10_, i20_, i01_, i02_, i12_, i21_, n1, e20, hle]
      exact ⟨_, p1, _, p2, _, p3, _, p4, _, p5, by rw [q5], rfl⟩
    · simp only [forall_eq, true_implies, false_implies, not_true_eq_false, not_false_eq_true, and_true, true_and, and_self, isB0, isB1, bI_t0, bI_f0, i10_, i20_, i01_, i02_, i12_, i21_, n3, e20, hle]
      refine hV _ (w166_18 ?_)
      simp only [forall_eq, true_implies, false_implies, not_true_eq_false, not_false_eq_true, and_true, true_and, and_self, isB0, isB1, bI_t0, bI_f0, i10_, i20_, i01_, i02_, i12_, i21_, show ((20 : Int32) ≤ iN 20) = True from by decide, i1]
    · rw [i4 3 0 7 (by omega), q5]
    · by_cases hjn : j < n
      · obtain ⟨y, h1, h2, h3⟩ := hb j hjn
        exact ⟨y, h1, by rw [i4 4 0 j (by omega), oA j hjn]; exact h2, by rw [i3 j hjn, kA 108 0 j (by omega)]; exact h3⟩
      · obtain ⟨t, rfl⟩ : ∃ t, j = n + t := ⟨j - n, by omega⟩
        have ht : t < 20 := by omega
        have := cA t ht
        obtain ⟨y, h1, h2⟩ := and255 ((if t < 4 then a else if t < 8 then b else if t < 12 then c else if t < 16 then e else f) >>> ((24 - 8 * (iN (t % 4) % 4)) &&& 31))
        exact ⟨y, h1, by rw [i4 4 0 _ (by omega), this]; exact h2, by rw [i2 t ht]; exact h2⟩
    · refine k3_trans (k3_sub kA (fun c a j z => ?_)) (k3_sub i4 (fun c a j z => ?_)) <;> omega
  · refine ⟨-1, M, M, e107 (w107_0 ?_), e166 (w166_0 ?_), ⟨n, hn, n1, n2, hb⟩, k3_refl⟩
    · simp only [forall_eq, true_implies, false_implies, not_true_eq_false, not_false_eq_true, and_true, true_and, and_self, isB0, isB1, bI_t0, bI_f0, i10_, i20_, i01_, i02_, i12_, i21_, n1, e20, show (iN (n + 20) ≤ 400) = False from eq_false (fun z => hlt ((iN_le (b := 400) (by omega) (by decide)).mp z))]
    · simp only [forall_eq, true_implies, false_implies, not_true_eq_false, not_false_eq_true, and_true, true_and, and_self, isB0, isB1, bI_t0, bI_f0, i10_, i20_, i01_, i02_, i12_, i21_, n2, e20, show (iN (n + 20) ≤ 400) = False from eq_false (fun z => hlt ((iN_le (b := 400) (by omega) (by decide)).mp z))]
