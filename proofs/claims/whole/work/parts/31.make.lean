/-! door, person, set; the tape: fault, end, feed -/
theorem bI_t0 : (bI true = 0) = False := by simp [bI]
theorem bI_f0 : (bI false = 0) = True := by simp [bI]
theorem i10_ : ((1 : Int32) = 0) = False := by decide
theorem i20_ : ((2 : Int32) = 0) = False := by decide
theorem i01_ : ((0 : Int32) = 1) = False := by decide
theorem i02_ : ((0 : Int32) = 2) = False := by decide
theorem i12_ : ((1 : Int32) = 2) = False := by decide
theorem i21_ : ((2 : Int32) = 1) = False := by decide
/-- what is written when the land is made, and the past forgotten -/
abbrev LdP : Nat → Nat → Nat → Prop := fun c a j => (c = 8 ∧ a = 0 ∧ j = 0) ∨ (c = 100 ∧ a = 0 ∧ j = 4) ∨ (a = 0 ∧ 20 ≤ c ∧ c < 30) ∨ (c = 101 ∧ a = 0 ∧ j ≠ 5 ∧ (j < 232 ∨ (241 ≤ j ∧ j < 287)))
theorem k3_sub {P P2 : Nat → Nat → Nat → Prop} {M M2 : Mem} (h : K3 P M M2) (hp : ∀ c a j, P c a j → P2 c a j) : K3 P2 M M2 := fun c a j h2 => h c a j (fun z => h2 (hp c a j z))
theorem st_rd {M : Mem} {c a j c' a' j' : Nat} {x : Int32} : (st M c a j x).1 c' a' j' = if c' = c ∧ a' = a ∧ j' = j then x else M.1 c' a' j' := rfl
theorem c61 {X : Cx} {d : Nat} {M : Mem} {a n : Nat} {x : Int32} (hn : n < 8) (h : M.1 20 a 6 = iN n) : CC X (d + 1) 61 [vR 20 a, vI x] M (some (vI (iN n))) (st (st M 23 a n (if x = 0 then 0 else 1)) 20 a 6 (iN (n + 1))) := by
  have hl : iN n < 8 := (iN_lt (b := 8) (by omega) (by decide)).mpr hn
  have hb : inb (iN n) 8 := inb_of hn (by decide)
  have g (y : Int32) : (st M 23 a n y).1 20 a 6 = iN n := by rw [st_ne3 (fun z => absurd z.1 (by decide))]; exact h
  refine e61 (w61_0 ?_)
  by_cases hx : x = 0
  · simp only [forall_eq, true_implies, false_implies, not_true_eq_false, not_false_eq_true, and_true, true_and, and_self, isB0, isB1, bI_t0, bI_f0, i10_, i20_, i01_, i02_, i12_, i21_, h, hl, hb, hx, ix_of (show n < 2147483648 by omega), g, iN_step, st_at, iN_pred, if_true]
  · simp only [forall_eq, true_implies, false_implies, not_true_eq_false, not_false_eq_true, and_true, true_and, and_self, isB0, isB1, bI_t0, bI_f0, i10_, i20_, i01_, i02_, i12_, i21_, h, hl, hb, hx, ix_of (show n < 2147483648 by omega), g, iN_step, st_at, iN_pred, if_false]
theorem bit_new : ∀ n : Nat, n < 8 → ∀ k : Nat, k < 2 ^ n → (iN k ||| ((1 : Int32) <<< (iN n &&& 31)) = iN (k + 2 ^ n)) ∧ ∀ i : Nat, i < 8 → ((iN k >>> iN i) &&& 1 = if i = n then 0 else (iN k >>> iN i) &&& 1) ∧ (iN (k + 2 ^ n) >>> iN i) &&& 1 = if i = n then 1 else (iN k >>> iN i) &&& 1 := by decide +kernel
/-- door, both -/
theorem op100 {X : Cx} {d : Nat} {M : Mem} {v : Int32} (h : LandI M) : ∃ (x : Int32) (M1 M2 : Mem), CC X (d + 2) 100 [vR 2 0, vI v] M (some (vI x)) M1 ∧ CC X (d + 2) 163 [vR 100 0, vI v] M1 (some (vI x)) M2 ∧ (M2 = M ∨ (∃ n : Nat, n < 8 ∧ TM M 20 6 = iN n ∧ TC M2 0 = TM M2 ∧ TM M2 = up2 (up2 (TM M) 23 n (if v = 0 then 0 else 1)) 20 6 (iN (n + 1)) ∧ (∃ k : Nat, k < 2 ^ (n + 1) ∧ M2.1 101 0 6 = iN k) ∧ M2.1 8 0 0 = 0 ∧ M2.1 100 0 4 = 0 ∧ K3 LdP M M2)) := by
  obtain ⟨hT, hc, k, hk, hw6⟩ := h
  obtain ⟨-, ⟨n, hn, n1, n2⟩, -⟩ := land_n hT hc
  have t6 : TM M 20 6 = iN n := (TW_c (c := 20) (j := 6) (by decide)).symm.trans n2
  rw [t6, ix_of (by omega)] at hk
  have i230 : inb 230 2129 := inb_l (by decide) (by decide)
  have i6 : inb 6 2129 := inb_l (by decide) (by decide)
  have x230 : ix 230 = 230 := ix_l (by decide)
  have x6 : ix 6 = 6 := ix_l (by decide)
  by_cases hlt : n < 8
  · obtain ⟨b0, b1⟩ := bit_new n hlt k hk
    have hl : iN n < 8 := (iN_lt (b := 8) (by omega) (by decide)).mpr hlt
    have hne : (iN n = 8) = False := by
      refine eq_false (fun z => ?_)
      have := (iN_inj (b := 8) (by omega) (by decide)).mp z
      omega
    have hcl : (st M 8 0 0 0).1 20 0 6 = iN n := by rw [st_ne3 (fun z => absurd z.1 (by decide))]; exact n1
    generalize hM1 : st (st (st M 8 0 0 0) 23 0 n (if v = 0 then 0 else 1)) 20 0 6 (iN (n + 1)) = M1
    have w1 : M1.1 101 0 = M.1 101 0 := by rw [← hM1, st_ne (fun z => absurd z.1 (by decide)), st_ne (fun z => absurd z.1 (by decide)), st_ne (fun z => absurd z.1 (by decide))]
    have wn : M1.1 101 0 230 = iN n := by rw [w1]; exact n2
    have w6 : M1.1 101 0 6 = iN k := by rw [w1]; exact hw6
    have cl : CC X (d + 2) 100 [vR 2 0, vI v] M (some (vI (iN n))) M1 := by
      refine e100 (w100_0 ?_)
      simp only [forall_eq, true_implies, false_implies, not_true_eq_false, not_false_eq_true, and_true, true_and, and_self, isB0, isB1, bI_t0, bI_f0, i10_, i20_, i01_, i02_, i12_, i21_, n1, hl]
      exact ⟨_, c10, _, _, c61 hlt hcl, rfl, hM1⟩
    have fin : ∀ k', (∀ i : Nat, i < 8 → (iN k' >>> iN i) &&& 1 = if i = n then (if v = 0 then 0 else 1) else (iN k >>> iN i) &&& 1) → k' < 2 ^ (n + 1) → (n < 8 ∧ TM M 20 6 = iN n ∧ TC (st (st (st M1 101 0 6 (iN k')) 101 0 230 (iN (n + 1))) 100 0 4 0) 0 = TM (st (st (st M1 101 0 6 (iN k')) 101 0 230 (iN (n + 1))) 100 0 4 0) ∧ TM (st (st (st M1 101 0 6 (iN k')) 101 0 230 (iN (n + 1))) 100 0 4 0) = up2 (up2 (TM M) 23 n (if v = 0 then 0 else 1)) 20 6 (iN (n + 1)) ∧ (∃ k : Nat, k < 2 ^ (n + 1) ∧ (st (st (st M1 101 0 6 (iN k')) 101 0 230 (iN (n + 1))) 100 0 4 0).1 101 0 6 = iN k) ∧ (st (st (st M1 101 0 6 (iN k')) 101 0 230 (iN (n + 1))) 100 0 4 0).1 8 0 0 = 0 ∧ (st (st (st M1 101 0 6 (iN k')) 101 0 230 (iN (n + 1))) 100 0 4 0).1 100 0 4 = 0 ∧ K3 LdP M (st (st (st M1 101 0 6 (iN k')) 101 0 230 (iN (n + 1))) 100 0 4 0)) := by
      intro k' hbits hk'
      have eT : TM (st (st (st M1 101 0 6 (iN k')) 101 0 230 (iN (n + 1))) 100 0 4 0) = up2 (up2 (TM M) 23 n (if v = 0 then 0 else 1)) 20 6 (iN (n + 1)) := by
        show TW ((st (st (st M1 101 0 6 (iN k')) 101 0 230 (iN (n + 1))) 100 0 4 0).1 101 0) = _
        rw [st_ne (fun z => absurd z.1 (by decide)), w_st, w_st, w1, TW_20_6, TW_23 hlt (x := if v = 0 then 0 else 1)]
        intro i hi
        rw [hbits i hi, hw6]
      refine ⟨hlt, t6, ?_, eT, ⟨k', hk', ?_⟩, ?_, ?_, ?_⟩
      · rw [eT, ← hT, TC_off (Or.inl (fun _ => rfl)), TC_off (Or.inl (fun _ => rfl)), TC_off (Or.inl (fun _ => rfl)), ← hM1, TC_st (by decide), TC_st (by simpa [okC] using hlt), TC_off (Or.inl (fun _ => rfl))]
      · simp [st_rd]
      · rw [← hM1]
        simp [st_rd]
      · simp [st_rd]
      · rw [← hM1]
        exact k3_trans (k3_trans (k3_trans (k3_trans (k3_trans (k3_st (by simp [LdP])) (k3_st (by simp [LdP]))) (k3_st (by simp [LdP]))) (k3_st (by simp [LdP]))) (k3_st (by simp [LdP]))) (k3_st (by simp [LdP]))
    have e1 : iN (n + 1) - 1 = iN n := iN_pred n
    by_cases hv : v = 0
    · refine ⟨iN n, M1, st (st (st M1 101 0 6 (iN k)) 101 0 230 (iN (n + 1))) 100 0 4 0, cl, e163 (w163_0 ?_), Or.inr ⟨n, fin k (fun i hi => ?_) ?_⟩⟩
      · simp only [forall_eq, true_implies, false_implies, not_true_eq_false, not_false_eq_true, and_true, true_and, and_self, isB0, isB1, bI_t0, bI_f0, i10_, i20_, i01_, i02_, i12_, i21_, hv, i230, x230, i6, x6, wn, hne, w6, Int32.or_zero]
        rw [show (st M1 101 0 6 (iN k)).1 101 0 230 = iN n by rw [st_ne3 (by omega)]; exact wn, iN_step]
        refine ⟨_, c159, ?_, rfl⟩
        rw [st_ne3 (fun z => absurd z.1 (by decide)), st_at, e1]
      · rw [if_pos hv]
        exact ((b1 i hi).1)
      · have : 2 ^ n ≤ 2 ^ (n + 1) := Nat.pow_le_pow_right (by decide) (by omega)
        omega
    · refine ⟨iN n, M1, st (st (st M1 101 0 6 (iN (k + 2 ^ n))) 101 0 230 (iN (n + 1))) 100 0 4 0, cl, e163 (w163_0 ?_), Or.inr ⟨n, fin (k + 2 ^ n) (fun i hi => ?_) ?_⟩⟩
      · simp only [forall_eq, true_implies, false_implies, not_true_eq_false, not_false_eq_true, and_true, true_and, and_self, isB0, isB1, bI_t0, bI_f0, i10_, i20_, i01_, i02_, i12_, i21_, hv, i230, x230, i6, x6, wn, hne, w6, b0]
        rw [show (st M1 101 0 6 (iN (k + 2 ^ n))).1 101 0 230 = iN n by rw [st_ne3 (by omega)]; exact wn, iN_step]
        refine ⟨_, c159, ?_, rfl⟩
        rw [st_ne3 (fun z => absurd z.1 (by decide)), st_at, e1]
      · rw [if_neg hv]
        exact ((b1 i hi).2)
      · rw [Nat.pow_succ]
        omega
  · have hn8 : n = 8 := by omega
    subst hn8
    refine ⟨-1, M, M, e100 (w100_0 ?_), e163 (w163_0 ?_), Or.inl rfl⟩
    · simp only [forall_eq, true_implies, false_implies, not_true_eq_false, not_false_eq_true, and_true, true_and, and_self, isB0, isB1, bI_t0, bI_f0, i10_, i20_, i01_, i02_, i12_, i21_, n1, show ((iN 8 : Int32) < 8) = False from by decide]
    · simp only [forall_eq, true_implies, false_implies, not_true_eq_false, not_false_eq_true, and_true, true_and, and_self, isB0, isB1, bI_t0, bI_f0, i10_, i20_, i01_, i02_, i12_, i21_, i230, x230, n2, show ((iN 8 : Int32) = 8) = True from by decide]
/-! person -/
theorem c62 {X : Cx} {d : Nat} {M : Mem} {a n : Nat} {x y u : Int32} (hn : n < 12) (h : M.1 20 a 7 = iN n) : CC X (d + 1) 62 [vR 20 a, vI x, vI y, vI u] M (some (vI (iN n))) (st (st (st (st M 25 a n x) 26 a n y) 27 a n u) 20 a 7 (iN (n + 1))) := by
  have hl : iN n < 12 := (iN_lt (b := 12) (by omega) (by decide)).mpr hn
  have hb : inb (iN n) 12 := inb_of hn (by decide)
  have g1 : (st M 25 a n x).1 20 a 7 = iN n := by rw [st_ne3 (fun z => absurd z.1 (by decide))]; exact h
  have g2 : (st (st M 25 a n x) 26 a n y).1 20 a 7 = iN n := by rw [st_ne3 (fun z => absurd z.1 (by decide))]; exact g1
  have g3 : (st (st (st M 25 a n x) 26 a n y) 27 a n u).1 20 a 7 = iN n := by rw [st_ne3 (fun z => absurd z.1 (by decide))]; exact g2
  refine e62 (w62_0 ?_)
  simp only [forall_eq, true_implies, false_implies, not_true_eq_false, not_false_eq_true, and_true, true_and, and_self, isB0, isB1, bI_t0, bI_f0, i10_, i20_, i01_, i02_, i12_, i21_, h, hl, hb, ix_of (show n < 2147483648 by omega), g1, g2, g3, iN_step, st_at, iN_pred]
/-- person, both -/
theorem op101 {X : Cx} {d : Nat} {M : Mem} {u v q : Int32} (h : LandI M) : ∃ (x : Int32) (M1 M2 : Mem), CC X (d + 3) 101 [vR 2 0, vI u, vI v, vI q] M (some (vI x)) M1 ∧ CC X (d + 3) 164 [vR 100 0, vI u, vI v, vI q] M1 (some (vI x)) M2 ∧ (M2 = M ∨ (∃ n : Nat, n < 12 ∧ TM M 20 7 = iN n ∧ has u (TM M 20 6) 8 = true ∧ inR v 1 9 = true ∧ inR q 0 9 = true ∧ TC M2 0 = TM M2 ∧ TM M2 = up2 (up2 (up2 (up2 (TM M) 25 n u) 26 n v) 27 n q) 20 7 (iN (n + 1)) ∧ M2.1 101 0 6 = M.1 101 0 6 ∧ M2.1 8 0 0 = 0 ∧ M2.1 100 0 4 = 0 ∧ K3 LdP M M2)) := by
  obtain ⟨hT, hc, -⟩ := h
  obtain ⟨-, ⟨m, hm, m1, m2⟩, ⟨n, hn, n1, n2⟩⟩ := land_n hT hc
  have t6 : TM M 20 6 = iN m := (TW_c (c := 20) (j := 6) (by decide)).symm.trans m2
  have t7 : TM M 20 7 = iN n := (TW_c (c := 20) (j := 7) (by decide)).symm.trans n2
  rw [t6]
  have i231 : inb 231 2129 := inb_l (by decide) (by decide)
  have x231 : ix 231 = 231 := ix_l (by decide)
  have cd := c56 (X := X) (d := d + 1) (M := M) (a := 0) (v := u)
  rw [m1] at cd
  have rd (M1 : Mem) (g : M1.1 101 0 230 = iN m) := c156 (X := X) (d := d) (M := M1) (v := u) g hm
  have hno : ∀ {A : Mem → Prop}, (¬ (has u (iN m) 8 = true ∧ inR v 1 9 = true ∧ inR q 0 9 = true ∧ n < 12)) → ∃ (x : Int32) (M1 M2 : Mem), CC X (d + 3) 101 [vR 2 0, vI u, vI v, vI q] M (some (vI x)) M1 ∧ CC X (d + 3) 164 [vR 100 0, vI u, vI v, vI q] M1 (some (vI x)) M2 ∧ (M2 = M ∨ A M2) := by
    intro A hh
    refine ⟨-1, M, M, e101 (w101_0 ⟨_, _, cd, bI_if (fun z => ⟨rfl, rfl⟩) (fun z1 => ⟨_, _, c146, bI_if (fun z => ⟨rfl, rfl⟩) (fun z2 => ⟨_, _, c146, bI_if (fun z => ⟨rfl, rfl⟩) (fun z3 => ⟨fun z4 => absurd ⟨z1, z2, z3, ?_⟩ hh, fun _ => ⟨rfl, rfl⟩⟩)⟩)⟩)⟩), e164 (w164_0 ⟨_, _, rd M m2, bI_if (fun z => ⟨rfl, rfl⟩) (fun z1 => ⟨_, _, c151, bI_if (fun z => ⟨rfl, rfl⟩) (fun z2 => ⟨_, _, c151, bI_if (fun z => ⟨rfl, rfl⟩) (fun z3 => ⟨i231, fun z4 => absurd ⟨z1, z2, z3, ?_⟩ hh, fun _ => ⟨rfl, rfl⟩⟩)⟩)⟩)⟩), Or.inl rfl⟩
    · rw [n1] at z4
      exact (iN_lt (b := 12) (by omega) (by decide)).mp z4
    · rw [x231, n2] at z4
      have : n ≠ 12 := fun y => z4 (by rw [y]; rfl)
      omega
  by_cases hh : has u (iN m) 8 = true ∧ inR v 1 9 = true ∧ inR q 0 9 = true ∧ n < 12
  · obtain ⟨h1, h2, h3, hlt⟩ := hh
    have hl : (iN n < 12) := (iN_lt (b := 12) (by omega) (by decide)).mpr hlt
    have hne : (iN n = 12) = False := by
      refine eq_false (fun z => ?_)
      have := (iN_inj (b := 12) (by omega) (by decide)).mp z
      omega
    have hcl : (st M 8 0 0 0).1 20 0 7 = iN n := by rw [st_ne3 (fun z => absurd z.1 (by decide))]; exact n1
    generalize hM1 : st (st (st (st (st M 8 0 0 0) 25 0 n u) 26 0 n v) 27 0 n q) 20 0 7 (iN (n + 1)) = M1
    have w1 : M1.1 101 0 = M.1 101 0 := by rw [← hM1, st_ne (fun z => absurd z.1 (by decide)), st_ne (fun z => absurd z.1 (by decide)), st_ne (fun z => absurd z.1 (by decide)), st_ne (fun z => absurd z.1 (by decide)), st_ne (fun z => absurd z.1 (by decide))]
    have wn : M1.1 101 0 231 = iN n := by rw [w1]; exact n2
    have e251 : 251 + iN n = iN (251 + n) := by simp only [iN_lit, iN_add]
    have e263 : 263 + iN n = iN (263 + n) := by simp only [iN_lit, iN_add]
    have e275 : 275 + iN n = iN (275 + n) := by simp only [iN_lit, iN_add]
    have b1 : inb (iN (251 + n)) 2129 := inb_of (by omega) (by decide)
    have b2 : inb (iN (263 + n)) 2129 := inb_of (by omega) (by decide)
    have b3 : inb (iN (275 + n)) 2129 := inb_of (by omega) (by decide)
    have eW : (st (st (st (st (st M1 101 0 (251 + n) u) 101 0 (263 + n) v) 101 0 (275 + n) q) 101 0 231 (iN (n + 1))) 100 0 4 0).1 101 0 = upd (upd (upd (upd (M.1 101 0) (251 + n) u) (263 + n) v) (275 + n) q) 231 (iN (n + 1)) := by
      rw [st_ne (fun z => absurd z.1 (by decide)), w_st, w_st, w_st, w_st, w1]
    have eT : TM (st (st (st (st (st M1 101 0 (251 + n) u) 101 0 (263 + n) v) 101 0 (275 + n) q) 101 0 231 (iN (n + 1))) 100 0 4 0) = up2 (up2 (up2 (up2 (TM M) 25 n u) 26 n v) 27 n q) 20 7 (iN (n + 1)) := by
      show TW ((st (st (st (st (st M1 101 0 (251 + n) u) 101 0 (263 + n) v) 101 0 (275 + n) q) 101 0 231 (iN (n + 1))) 100 0 4 0).1 101 0) = _
      rw [eW, TW_20_7, TW_27 hlt, TW_26 hlt, TW_25 hlt]
    refine ⟨iN n, M1, st (st (st (st (st M1 101 0 (251 + n) u) 101 0 (263 + n) v) 101 0 (275 + n) q) 101 0 231 (iN (n + 1))) 100 0 4 0, e101 (w101_0 ?_), e164 (w164_0 ?_), Or.inr ⟨n, hlt, t7, h1, h2, h3, ?_, eT, ?_, ?_, ?_, ?_⟩⟩
    · refine ⟨_, _, cd, ?_⟩
      rw [h1]
      simp only [forall_eq, true_implies, false_implies, not_true_eq_false, not_false_eq_true, and_true, true_and, and_self, isB0, isB1, bI_t0, bI_f0, i10_, i20_, i01_, i02_, i12_, i21_]
      refine ⟨_, _, c146, ?_⟩
      rw [h2]
      simp only [forall_eq, true_implies, false_implies, not_true_eq_false, not_false_eq_true, and_true, true_and, and_self, isB0, isB1, bI_t0, bI_f0, i10_, i20_, i01_, i02_, i12_, i21_]
      refine ⟨_, _, c146, ?_⟩
      rw [h3]
      simp only [forall_eq, true_implies, false_implies, not_true_eq_false, not_false_eq_true, and_true, true_and, and_self, isB0, isB1, bI_t0, bI_f0, i10_, i20_, i01_, i02_, i12_, i21_, n1, hl]
      exact ⟨_, c10, _, _, c62 hlt hcl, rfl, hM1⟩
    · refine ⟨_, _, rd M1 (by rw [w1]; exact m2), ?_⟩
      rw [h1]
      simp only [forall_eq, true_implies, false_implies, not_true_eq_false, not_false_eq_true, and_true, true_and, and_self, isB0, isB1, bI_t0, bI_f0, i10_, i20_, i01_, i02_, i12_, i21_]
      refine ⟨_, _, c151, ?_⟩
      rw [h2]
      simp only [forall_eq, true_implies, false_implies, not_true_eq_false, not_false_eq_true, and_true, true_and, and_self, isB0, isB1, bI_t0, bI_f0, i10_, i20_, i01_, i02_, i12_, i21_]
      refine ⟨_, _, c151, ?_⟩
      rw [h3]
      simp only [forall_eq, true_implies, false_implies, not_true_eq_false, not_false_eq_true, and_true, true_and, and_self, isB0, isB1, bI_t0, bI_f0, i10_, i20_, i01_, i02_, i12_, i21_, i231, x231, wn, hne, e251, e263, e275, b1, b2, b3, ix_of (show 251 + n < 2147483648 by omega), ix_of (show 263 + n < 2147483648 by omega), ix_of (show 275 + n < 2147483648 by omega)]
      rw [show (st (st (st M1 101 0 (251 + n) u) 101 0 (263 + n) v) 101 0 (275 + n) q).1 101 0 231 = iN n by rw [st_ne3 (by omega), st_ne3 (by omega), st_ne3 (by omega)]; exact wn, iN_step]
      exact ⟨_, c159, rfl⟩
    · rw [eT, ← hT, TC_off (Or.inl (fun _ => rfl)), TC_off (Or.inl (fun _ => rfl)), TC_off (Or.inl (fun _ => rfl)), TC_off (Or.inl (fun _ => rfl)), TC_off (Or.inl (fun _ => rfl)), ← hM1, TC_st (by decide), TC_st (by simpa [okC] using hlt), TC_st (by simpa [okC] using hlt), TC_st (by simpa [okC] using hlt), TC_off (Or.inl (fun _ => rfl))]
    · rw [eW, upd_ne (by decide), upd_ne (by omega), upd_ne (by omega), upd_ne (by omega)]
    · rw [← hM1]
      simp [st_rd]
    · simp [st_rd]
    · rw [← hM1]
      exact k3_trans (k3_trans (k3_trans (k3_trans (k3_trans (k3_trans (k3_trans (k3_trans (k3_trans (k3_st (by simp [LdP])) (k3_st (by simp [LdP]))) (k3_st (by simp [LdP]))) (k3_st (by simp [LdP]))) (k3_st (by simp [LdP]))) (k3_st (by simp [LdP]; omega))) (k3_st (by simp [LdP]; omega))) (k3_st (by simp [LdP]; omega))) (k3_st (by simp [LdP]))) (k3_st (by simp [LdP]))
  · exact hno (A := fun M2 => ∃ n : Nat, n < 12 ∧ TM M 20 7 = iN n ∧ has u (iN m) 8 = true ∧ inR v 1 9 = true ∧ inR q 0 9 = true ∧ TC M2 0 = TM M2 ∧ TM M2 = up2 (up2 (up2 (up2 (TM M) 25 n u) 26 n v) 27 n q) 20 7 (iN (n + 1)) ∧ M2.1 101 0 6 = M.1 101 0 6 ∧ M2.1 8 0 0 = 0 ∧ M2.1 100 0 4 = 0 ∧ K3 LdP M M2) hh
/-! set -/
theorem op102 {X : Cx} {d : Nat} {M : Mem} {u v q : Int32} (h : LandI M) : ∃ (x : Int32) (M1 M2 : Mem), CC X (d + 3) 102 [vR 2 0, vI u, vI v, vI q] M (some (vI x)) M1 ∧ CC X (d + 3) 165 [vR 100 0, vI u, vI v, vI q] M1 (some (vI x)) M2 ∧ (M2 = M ∨ (∃ c j : Nat, ((c = 20 ∧ j = 1) ∨ (c = 22 ∧ j < 10 ∧ inR q 0 9999 = true ∧ has (iN j) (TM M 20 5) 10 = true) ∨ (c = 27 ∧ j < 12)) ∧ TC M2 0 = TM M2 ∧ TM M2 = up2 (TM M) c j q ∧ M2.1 101 0 6 = M.1 101 0 6 ∧ M2.1 8 0 0 = 0 ∧ M2.1 100 0 4 = 0 ∧ K3 LdP M M2)) := by
  obtain ⟨hT, hc, -⟩ := h
  obtain ⟨⟨n, hn, n1, n2⟩, -, ⟨m, hm, m1, m2⟩⟩ := land_n hT hc
  have t5 : TM M 20 5 = iN n := (TW_c (c := 20) (j := 5) (by decide)).symm.trans n2
  rw [t5]
  have cf := c55 (X := X) (d := d + 1) (M := M) (a := 0) (v := v)
  rw [n1] at cf
  have rf (M1 : Mem) (g : M1.1 101 0 229 = iN n) := c155 (X := X) (d := d) (M := M1) (v := v) g hn
  have cp := c57 (X := X) (d := d + 1) (M := M) (a := 0) (v := v)
  rw [m1] at cp
  have rp (M1 : Mem) (g : M1.1 101 0 231 = iN m) := c157 (X := X) (d := d) (M := M1) (v := v) g hm
  have fin : ∀ c j k : Nat, okC c j = true → (∀ w : Nat → Int32, TW (upd w k q) = up2 (TW w) c j q) → k ≠ 5 → k ≠ 6 → (k < 232 ∨ (241 ≤ k ∧ k < 287)) → 20 ≤ c → c < 30 → (TC (st (st (st (st M c 0 j q) 8 0 0 0) 101 0 k q) 100 0 4 0) 0 = TM (st (st (st (st M c 0 j q) 8 0 0 0) 101 0 k q) 100 0 4 0) ∧ TM (st (st (st (st M c 0 j q) 8 0 0 0) 101 0 k q) 100 0 4 0) = up2 (TM M) c j q ∧ (st (st (st (st M c 0 j q) 8 0 0 0) 101 0 k q) 100 0 4 0).1 101 0 6 = M.1 101 0 6 ∧ (st (st (st (st M c 0 j q) 8 0 0 0) 101 0 k q) 100 0 4 0).1 8 0 0 = 0 ∧ (st (st (st (st M c 0 j q) 8 0 0 0) 101 0 k q) 100 0 4 0).1 100 0 4 = 0 ∧ K3 LdP M (st (st (st (st M c 0 j q) 8 0 0 0) 101 0 k q) 100 0 4 0)) := by
    intro c j k hk hw h5 h6 hr hc1 hc2
    have eT : TM (st (st (st (st M c 0 j q) 8 0 0 0) 101 0 k q) 100 0 4 0) = up2 (TM M) c j q := by
      show TW ((st (st (st (st M c 0 j q) 8 0 0 0) 101 0 k q) 100 0 4 0).1 101 0) = _
      rw [st_ne (fun z => absurd z.1 (by decide)), w_st, hw, st_ne (fun z => absurd z.1 (by decide)), st_ne (fun z => by omega)]
    refine ⟨?_, eT, ?_, ?_, ?_, ?_⟩
    · rw [eT, ← hT, TC_off (Or.inl (fun _ => rfl)), TC_off (Or.inl (fun _ => rfl)), TC_off (Or.inl (fun _ => rfl)), TC_st hk]
    · rw [st_ne3 (fun z => absurd z.1 (by decide)), st_ne3 (by omega), st_ne3 (fun z => absurd z.1 (by decide)), st_ne3 (by omega)]
    · rw [st_ne3 (fun z => absurd z.1 (by decide)), st_ne3 (fun z => absurd z.1 (by decide)), st_at]
    · rw [st_at]
    · exact k3_trans (k3_trans (k3_trans (k3_st (by simp [LdP]; omega)) (k3_st (by simp [LdP]))) (k3_st (by simp [LdP]; omega))) (k3_st (by simp [LdP]))
  by_cases u0 : u = 0
  · subst u0
    by_cases hq : inR q 0 9 = true
    · refine ⟨1, st (st M 20 0 1 q) 8 0 0 0, st (st (st (st M 20 0 1 q) 8 0 0 0) 101 0 0 q) 100 0 4 0, e102 (w102_0 ?_), e165 (w165_0 ?_), Or.inr ⟨20, 1, Or.inl ⟨rfl, rfl⟩, fin 20 1 0 (by decide) (fun _ => TW_20_1) (by decide) (by decide) (by decide) (by decide) (by decide)⟩⟩
      · simp only [forall_eq, true_implies, false_implies, not_true_eq_false, not_false_eq_true, and_true, true_and, and_self, isB0, isB1, bI_t0, bI_f0, i10_, i20_, i01_, i02_, i12_, i21_]
        refine ⟨_, _, c146, ?_⟩
        simp only [forall_eq, true_implies, false_implies, not_true_eq_false, not_false_eq_true, and_true, true_and, and_self, isB0, isB1, bI_t0, bI_f0, i10_, i20_, i01_, i02_, i12_, i21_, hq]
        exact ⟨_, c10, rfl⟩
      · simp only [forall_eq, true_implies, false_implies, not_true_eq_false, not_false_eq_true, and_true, true_and, and_self, isB0, isB1, bI_t0, bI_f0, i10_, i20_, i01_, i02_, i12_, i21_]
        refine ⟨_, _, c151, ?_⟩
        simp only [forall_eq, true_implies, false_implies, not_true_eq_false, not_false_eq_true, and_true, true_and, and_self, isB0, isB1, bI_t0, bI_f0, i10_, i20_, i01_, i02_, i12_, i21_, hq, show inb 0 2129 from inb_l (by decide) (by decide), show ix 0 = 0 from ix_l (by decide)]
        exact ⟨_, c159, rfl⟩
    · have hq : inR q 0 9 = false := by simpa using hq
      refine ⟨0, M, M, e102 (w102_0 ?_), e165 (w165_0 ?_), Or.inl rfl⟩
      · simp only [forall_eq, true_implies, false_implies, not_true_eq_false, not_false_eq_true, and_true, true_and, and_self, isB0, isB1, bI_t0, bI_f0, i10_, i20_, i01_, i02_, i12_, i21_]
        refine ⟨_, _, c146, ?_⟩
        simp only [forall_eq, true_implies, false_implies, not_true_eq_false, not_false_eq_true, and_true, true_and, and_self, isB0, isB1, bI_t0, bI_f0, i10_, i20_, i01_, i02_, i12_, i21_, hq]
      · simp only [forall_eq, true_implies, false_implies, not_true_eq_false, not_false_eq_true, and_true, true_and, and_self, isB0, isB1, bI_t0, bI_f0, i10_, i20_, i01_, i02_, i12_, i21_]
        refine ⟨_, _, c151, ?_⟩
        simp only [forall_eq, true_implies, false_implies, not_true_eq_false, not_false_eq_true, and_true, true_and, and_self, isB0, isB1, bI_t0, bI_f0, i10_, i20_, i01_, i02_, i12_, i21_, hq]
  · by_cases u1 : u = 1
    · subst u1
      by_cases hf : has v (iN n) 10 = true
      · by_cases hq : inR q 0 9999 = true
        · obtain ⟨j, rfl, hj⟩ := has_lt (k := 10) hn (by decide) hf
          have e7 : 7 + iN j = iN (7 + j) := by simp only [iN_lit, iN_add]
          refine ⟨1, st (st M 22 0 j q) 8 0 0 0, st (st (st (st M 22 0 j q) 8 0 0 0) 101 0 (7 + j) q) 100 0 4 0, e102 (w102_0 ?_), e165 (w165_0 ?_), Or.inr ⟨22, j, Or.inr (Or.inl ⟨rfl, by omega, hq, hf⟩), fin 22 j (7 + j) (by simp [okC]; omega) (fun _ => TW_22 (by omega)) (by omega) (by omega) (by omega) (by decide) (by decide)⟩⟩
          · simp only [forall_eq, true_implies, false_implies, not_true_eq_false, not_false_eq_true, and_true, true_and, and_self, isB0, isB1, bI_t0, bI_f0, i10_, i20_, i01_, i02_, i12_, i21_]
            refine ⟨_, _, cf, ?_⟩
            simp only [forall_eq, true_implies, false_implies, not_true_eq_false, not_false_eq_true, and_true, true_and, and_self, isB0, isB1, bI_t0, bI_f0, i10_, i20_, i01_, i02_, i12_, i21_, hf]
            refine ⟨_, _, c146, ?_⟩
            simp only [forall_eq, true_implies, false_implies, not_true_eq_false, not_false_eq_true, and_true, true_and, and_self, isB0, isB1, bI_t0, bI_f0, i10_, i20_, i01_, i02_, i12_, i21_, hq, show inb (iN j) 10 from inb_of (by omega) (by decide), ix_of (show j < 2147483648 by omega)]
            exact ⟨_, c10, rfl⟩
          · simp only [forall_eq, true_implies, false_implies, not_true_eq_false, not_false_eq_true, and_true, true_and, and_self, isB0, isB1, bI_t0, bI_f0, i10_, i20_, i01_, i02_, i12_, i21_]
            refine ⟨_, _, rf _ (by rw [st_ne3 (fun z => absurd z.1 (by decide)), st_ne3 (fun z => absurd z.1 (by decide))]; exact n2), ?_⟩
            simp only [forall_eq, true_implies, false_implies, not_true_eq_false, not_false_eq_true, and_true, true_and, and_self, isB0, isB1, bI_t0, bI_f0, i10_, i20_, i01_, i02_, i12_, i21_, hf]
            refine ⟨_, _, c151, ?_⟩
            simp only [forall_eq, true_implies, false_implies, not_true_eq_false, not_false_eq_true, and_true, true_and, and_self, isB0, isB1, bI_t0, bI_f0, i10_, i20_, i01_, i02_, i12_, i21_, hq, e7, show inb (iN (7 + j)) 2129 from inb_of (by omega) (by decide), ix_of (show 7 + j < 2147483648 by omega)]
            exact ⟨_, c159, rfl⟩
        · have hq : inR q 0 9999 = false := by simpa using hq
          refine ⟨0, M, M, e102 (w102_0 ?_), e165 (w165_0 ?_), Or.inl rfl⟩
          · simp only [forall_eq, true_implies, false_implies, not_true_eq_false, not_false_eq_true, and_true, true_and, and_self, isB0, isB1, bI_t0, bI_f0, i10_, i20_, i01_, i02_, i12_, i21_]
            refine ⟨_, _, cf, ?_⟩
            simp only [forall_eq, true_implies, false_implies, not_true_eq_false, not_false_eq_true, and_true, true_and, and_self, isB0, isB1, bI_t0, bI_f0, i10_, i20_, i01_, i02_, i12_, i21_, hf]
            refine ⟨_, _, c146, ?_⟩
            simp only [forall_eq, true_implies, false_implies, not_true_eq_false, not_false_eq_true, and_true, true_and, and_self, isB0, isB1, bI_t0, bI_f0, i10_, i20_, i01_, i02_, i12_, i21_, hq]
          · simp only [forall_eq, true_implies, false_implies, not_true_eq_false, not_false_eq_true, and_true, true_and, and_self, isB0, isB1, bI_t0, bI_f0, i10_, i20_, i01_, i02_, i12_, i21_]
            refine ⟨_, _, rf _ n2, ?_⟩
            simp only [forall_eq, true_implies, false_implies, not_true_eq_false, not_false_eq_true, and_true, true_and, and_self, isB0, isB1, bI_t0, bI_f0, i10_, i20_, i01_, i02_, i12_, i21_, hf]
            refine ⟨_, _, c151, ?_⟩
            simp only [forall_eq, true_implies, false_implies, not_true_eq_false, not_false_eq_true, and_true, true_and, and_self, isB0, isB1, bI_t0, bI_f0, i10_, i20_, i01_, i02_, i12_, i21_, hq]
      · have hf : has v (iN n) 10 = false := by simpa using hf
        refine ⟨0, M, M, e102 (w102_0 ?_), e165 (w165_0 ?_), Or.inl rfl⟩
        · simp only [forall_eq, true_implies, false_implies, not_true_eq_false, not_false_eq_true, and_true, true_and, and_self, isB0, isB1, bI_t0, bI_f0, i10_, i20_, i01_, i02_, i12_, i21_]
          refine ⟨_, _, cf, ?_⟩
          simp only [forall_eq, true_implies, false_implies, not_true_eq_false, not_false_eq_true, and_true, true_and, and_self, isB0, isB1, bI_t0, bI_f0, i10_, i20_, i01_, i02_, i12_, i21_, hf]
        · simp only [forall_eq, true_implies, false_implies, not_true_eq_false, not_false_eq_true, and_true, true_and, and_self, isB0, isB1, bI_t0, bI_f0, i10_, i20_, i01_, i02_, i12_, i21_]
          refine ⟨_, _, rf _ n2, ?_⟩
          simp only [forall_eq, true_implies, false_implies, not_true_eq_false, not_false_eq_true, and_true, true_and, and_self, isB0, isB1, bI_t0, bI_f0, i10_, i20_, i01_, i02_, i12_, i21_, hf]
    · by_cases u2 : u = 2
      · subst u2
        by_cases hf : has v (iN m) 12 = true
        · by_cases hq : inR q 0 9 = true
          · obtain ⟨j, rfl, hj⟩ := has_lt (k := 12) hm (by decide) hf
            have e7 : 275 + iN j = iN (275 + j) := by simp only [iN_lit, iN_add]
            refine ⟨1, st (st M 27 0 j q) 8 0 0 0, st (st (st (st M 27 0 j q) 8 0 0 0) 101 0 (275 + j) q) 100 0 4 0, e102 (w102_0 ?_), e165 (w165_0 ?_), Or.inr ⟨27, j, Or.inr (Or.inr ⟨rfl, by omega⟩), fin 27 j (275 + j) (by simp [okC]; omega) (fun _ => TW_27 (by omega)) (by omega) (by omega) (by omega) (by decide) (by decide)⟩⟩
            · simp only [forall_eq, true_implies, false_implies, not_true_eq_false, not_false_eq_true, and_true, true_and, and_self, isB0, isB1, bI_t0, bI_f0, i10_, i20_, i01_, i02_, i12_, i21_]
              refine ⟨_, _, cp, ?_⟩
              simp only [forall_eq, true_implies, false_implies, not_true_eq_false, not_false_eq_true, and_true, true_and, and_self, isB0, isB1, bI_t0, bI_f0, i10_, i20_, i01_, i02_, i12_, i21_, hf]
              refine ⟨_, _, c146, ?_⟩
              simp only [forall_eq, true_implies, false_implies, not_true_eq_false, not_false_eq_true, and_true, true_and, and_self, isB0, isB1, bI_t0, bI_f0, i10_, i20_, i01_, i02_, i12_, i21_, hq, show inb (iN j) 12 from inb_of (by omega) (by decide), ix_of (show j < 2147483648 by omega)]
              exact ⟨_, c10, rfl⟩
            · simp only [forall_eq, true_implies, false_implies, not_true_eq_false, not_false_eq_true, and_true, true_and, and_self, isB0, isB1, bI_t0, bI_f0, i10_, i20_, i01_, i02_, i12_, i21_]
              refine ⟨_, _, rp _ (by rw [st_ne3 (fun z => absurd z.1 (by decide)), st_ne3 (fun z => absurd z.1 (by decide))]; exact m2), ?_⟩
              simp only [forall_eq, true_implies, false_implies, not_true_eq_false, not_false_eq_true, and_true, true_and, and_self, isB0, isB1, bI_t0, bI_f0, i10_, i20_, i01_, i02_, i12_, i21_, hf]
              refine ⟨_, _, c151, ?_⟩
              simp only [forall_eq, true_implies, false_implies, not_true_eq_false, not_false_eq_true, and_true, true_and, and_self, isB0, isB1, bI_t0, bI_f0, i10_, i20_, i01_, i02_, i12_, i21_, hq, e7, show inb (iN (275 + j)) 2129 from inb_of (by omega) (by decide), ix_of (show 275 + j < 2147483648 by omega)]
              exact ⟨_, c159, rfl⟩
          · have hq : inR q 0 9 = false := by simpa using hq
            refine ⟨0, M, M, e102 (w102_0 ?_), e165 (w165_0 ?_), Or.inl rfl⟩
            · simp only [forall_eq, true_implies, false_implies, not_true_eq_false, not_false_eq_true, and_true, true_and, and_self, isB0, isB1, bI_t0, bI_f0, i10_, i20_, i01_, i02_, i12_, i21_]
              refine ⟨_, _, cp, ?_⟩
              simp only [forall_eq, true_implies, false_implies, not_true_eq_false, not_false_eq_true, and_true, true_and, and_self, isB0, isB1, bI_t0, bI_f0, i10_, i20_, i01_, i02_, i12_, i21_, hf]
              refine ⟨_, _, c146, ?_⟩
              simp only [forall_eq, true_implies, false_implies, not_true_eq_false, not_false_eq_true, and_true, true_and, and_self, isB0, isB1, bI_t0, bI_f0, i10_, i20_, i01_, i02_, i12_, i21_, hq]
            · simp only [forall_eq, true_implies, false_implies, not_true_eq_false, not_false_eq_true, and_true, true_and, and_self, isB0, isB1, bI_t0, bI_f0, i10_, i20_, i01_, i02_, i12_, i21_]
              refine ⟨_, _, rp _ m2, ?_⟩
              simp only [forall_eq, true_implies, false_implies, not_true_eq_false, not_false_eq_true, and_true, true_and, and_self, isB0, isB1, bI_t0, bI_f0, i10_, i20_, i01_, i02_, i12_, i21_, hf]
              refine ⟨_, _, c151, ?_⟩
              simp only [forall_eq, true_implies, false_implies, not_true_eq_false, not_false_eq_true, and_true, true_and, and_self, isB0, isB1, bI_t0, bI_f0, i10_, i20_, i01_, i02_, i12_, i21_, hq]
        · have hf : has v (iN m) 12 = false := by simpa using hf
          refine ⟨0, M, M, e102 (w102_0 ?_), e165 (w165_0 ?_), Or.inl rfl⟩
          · simp only [forall_eq, true_implies, false_implies, not_true_eq_false, not_false_eq_true, and_true, true_and, and_self, isB0, isB1, bI_t0, bI_f0, i10_, i20_, i01_, i02_, i12_, i21_]
            refine ⟨_, _, cp, ?_⟩
            simp only [forall_eq, true_implies, false_implies, not_true_eq_false, not_false_eq_true, and_true, true_and, and_self, isB0, isB1, bI_t0, bI_f0, i10_, i20_, i01_, i02_, i12_, i21_, hf]
          · simp only [forall_eq, true_implies, false_implies, not_true_eq_false, not_false_eq_true, and_true, true_and, and_self, isB0, isB1, bI_t0, bI_f0, i10_, i20_, i01_, i02_, i12_, i21_]
            refine ⟨_, _, rp _ m2, ?_⟩
            simp only [forall_eq, true_implies, false_implies, not_true_eq_false, not_false_eq_true, and_true, true_and, and_self, isB0, isB1, bI_t0, bI_f0, i10_, i20_, i01_, i02_, i12_, i21_, hf]
      · refine ⟨0, M, M, e102 (w102_0 ?_), e165 (w165_0 ?_), Or.inl rfl⟩
        · simp only [forall_eq, true_implies, false_implies, not_true_eq_false, not_false_eq_true, and_true, true_and, and_self, isB0, isB1, bI_t0, bI_f0, i10_, i20_, i01_, i02_, i12_, i21_, u0, u1, u2]
        · simp only [forall_eq, true_implies, false_implies, not_true_eq_false, not_false_eq_true, and_true, true_and, and_self, isB0, isB1, bI_t0, bI_f0, i10_, i20_, i01_, i02_, i12_, i21_, u0, u1, u2]
