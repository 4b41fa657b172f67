/-! the class reads: alive, and dead behind a fault -/
def Tok (b : Nat → Nat) (n m : Nat) : Prop := m ≤ n ∧ n ≤ 400 ∧ (∀ k, m ≤ k → ps b n k = n) ∧ (∀ k, k < m → ps b n k < n) ∧ ∀ j, j < n → b j < 256
theorem ps_nw {b : Nat → Nat} {n : Nat} : ∀ k : Nat, ps b n k < n → isWc (b (ps b n k)) = false := by
  intro k hk
  have key : ∃ p, ps b n k = enP isWc b n p := by
    induction k with
    | zero => exact ⟨0, rfl⟩
    | succ k ih =>
      by_cases h : ps b n k < n
      · exact ⟨_, ps_go h⟩
      · have h2 := ps_st h
        rw [h2] at hk
        exact absurd hk h
  obtain ⟨p, hp⟩ := key
  have := enP_out (P := isWc) (b := b) (n := n) p
  rw [← hp] at this
  cases hw : isWc (b (ps b n k)) with
  | false => rfl
  | true => exact absurd ⟨hk, hw⟩ this
theorem tk_lt {b : Nat → Nat} {n m k : Nat} (h : Tok b n m) (hk : k < m) : tk b n k < 10000 ∨ (10000 ≤ tk b n k ∧ tk b n k < 10023) ∨ (20000 ≤ tk b n k ∧ tk b n k < 20256) ∨ tk b n k = 30000 := by
  have hp := h.2.2.2.1 k hk
  unfold tk
  rw [if_pos hp]
  exact tkV_b hp (h.2.2.2.2 _ hp) (ps_nw k hp)
theorem tk_ge {b : Nat → Nat} {n m k : Nat} (h : Tok b n m) (hk : m ≤ k) : tk b n k = 30001 := tk_end (h.2.2.1 k hk)
theorem tk_b {b : Nat → Nat} {n m : Nat} (h : Tok b n m) (k : Nat) : tk b n k ≤ 30001 := by
  by_cases hk : k < m
  · rcases tk_lt h hk with h1 | h1 | h1 | h1 <;> omega
  · rw [tk_ge h (by omega)]
    omega
theorem tk_in {b : Nat → Nat} {n m k : Nat} (h : Tok b n m) (hk : tk b n k ≠ 30001) : k < m := Nat.not_le.mp (fun z => hk (tk_ge h z))
/-- alive at token i -/
def CA (M : Mem) (b : Nat → Nat) (n m i : Nat) : Prop := i ≤ m ∧ M.1 3 0 13 = 0 ∧ M.1 3 0 9 = iN i ∧ M.1 3 0 10 = iN (tk b n i) ∧ TkC M b n (m + 1) ∧ (∃ ln : Nat, ln ≤ 400 ∧ M.1 40 1 1 = iN ln) ∧ (∃ w : Nat, w ≤ 32 ∧ M.1 3 0 11 = iN w) ∧ M.1 3 0 14 = -1
/-- dead: a fault e at token p -/
def DD (M : Mem) (b : Nat → Nat) (n m e p : Nat) : Prop := 1 ≤ e ∧ e ≤ 3 ∧ M.1 3 0 13 = iN e ∧ M.1 3 0 14 = iN (ps b n p) ∧ (∃ i, i ≤ m ∧ M.1 3 0 9 = iN i) ∧ TkC M b n (m + 1) ∧ (∃ ln : Nat, ln ≤ 400 ∧ M.1 40 1 1 = iN ln) ∧ ∃ w : Nat, w ≤ 32 ∧ M.1 3 0 11 = iN w
theorem DD.ne {M : Mem} {b : Nat → Nat} {n m e p : Nat} (h : DD M b n m e p) : (M.1 3 0 13 = 0) = False := by
  rw [h.2.2.1]
  exact neq_ (b := 0) (by have := h.2.1; omega) (by decide) (by have := h.1; omega)
theorem TkC.k {M M2 : Mem} {b : Nat → Nat} {n c : Nat} {P : Nat → Nat → Nat → Prop} (h : TkC M b n c) (k : K3 P M M2) (h1 : ¬ P 3 0 8) (h2 : ∀ j, ¬ P 5 0 j) (h3 : ∀ j, ¬ P 6 0 j) : TkC M2 b n c := ⟨by rw [k 3 0 8 h1]; exact h.1, fun q hq => by rw [k 5 0 q (h2 q), k 6 0 q (h3 q)]; exact h.2 q hq⟩
theorem c34 {X : Cx} {d : Nat} {M : Mem} {b : Nat → Nat} {n m i t : Nat} (hT : Tok b n m) (h : CA M b n m i) (ht : t < 2147483648) : CC X (d + 1) 34 [vR 3 0, vI (iN t)] M (some (vI (bI (decide (tk b n i = t))))) M := by
  refine e34 (w34_0 ?_)
  obtain ⟨-, h1, h2, h3, -⟩ := h
  have := tk_b hT i
  by_cases hh : tk b n i = t
  · simp only [forall_eq, true_implies, false_implies, not_true_eq_false, not_false_eq_true, and_true, true_and, and_self, isB0, isB1, bI_t0, bI_f0, i10_, i20_, i01_, i02_, i12_, i21_, h1, h3, hh, decide_true]
    rfl
  · simp only [forall_eq, true_implies, false_implies, not_true_eq_false, not_false_eq_true, and_true, true_and, and_self, isB0, isB1, bI_t0, bI_f0, i10_, i20_, i01_, i02_, i12_, i21_, h1, h3, neq_ (a := tk b n i) (b := t) (by omega) ht hh, hh, decide_false]
    rfl
theorem c34_d {X : Cx} {d : Nat} {M : Mem} {b : Nat → Nat} {n m e p : Nat} {x : Int32} (h : DD M b n m e p) : CC X (d + 1) 34 [vR 3 0, vI x] M (some (vI 0)) M := by
  refine e34 (w34_0 ?_)
  simp only [forall_eq, true_implies, false_implies, not_true_eq_false, not_false_eq_true, and_true, true_and, and_self, isB0, isB1, bI_t0, bI_f0, i10_, i20_, i01_, i02_, i12_, i21_, h.ne]
theorem c35 {X : Cx} {d : Nat} {M : Mem} {b : Nat → Nat} {n m i : Nat} (hT : Tok b n m) (h : CA M b n m i) : CC X (d + 1) 35 [vR 3 0] M (some (vI (bI (decide (tk b n i < 10000))))) M := by
  refine e35 (w35_0 ?_)
  obtain ⟨-, h1, h2, h3, -⟩ := h
  have := tk_b hT i
  by_cases hh : tk b n i < 10000
  · simp only [forall_eq, true_implies, false_implies, not_true_eq_false, not_false_eq_true, and_true, true_and, and_self, isB0, isB1, bI_t0, bI_f0, i10_, i20_, i01_, i02_, i12_, i21_, h1, h3, show (10000 ≤ iN (tk b n i)) = False from nle_ (a := 10000) (by decide) (by omega) hh, hh, decide_true]
    rfl
  · simp only [forall_eq, true_implies, false_implies, not_true_eq_false, not_false_eq_true, and_true, true_and, and_self, isB0, isB1, bI_t0, bI_f0, i10_, i20_, i01_, i02_, i12_, i21_, h1, h3, show (10000 ≤ iN (tk b n i)) = True from yle_ (a := 10000) (by decide) (by omega) (by omega), hh, decide_false]
    rfl
theorem c35_d {X : Cx} {d : Nat} {M : Mem} {b : Nat → Nat} {n m e p : Nat} (h : DD M b n m e p) : CC X (d + 1) 35 [vR 3 0] M (some (vI 0)) M := by
  refine e35 (w35_0 ?_)
  simp only [forall_eq, true_implies, false_implies, not_true_eq_false, not_false_eq_true, and_true, true_and, and_self, isB0, isB1, bI_t0, bI_f0, i10_, i20_, i01_, i02_, i12_, i21_, h.ne]
abbrev SpP : Nat → Nat → Nat → Prop := fun c a j => c = 3 ∧ a = 0 ∧ (j = 9 ∨ j = 10)
abbrev BlP : Nat → Nat → Nat → Prop := fun c a j => c = 3 ∧ a = 0 ∧ (j = 13 ∨ j = 14)
/-- what reading may change -/
abbrev RdP : Nat → Nat → Nat → Prop := fun c a j => (c = 3 ∧ a = 0 ∧ (j = 9 ∨ j = 10 ∨ j = 11 ∨ j = 12 ∨ j = 13 ∨ j = 14)) ∨ (c = 7 ∧ a = 0) ∨ (a = 1 ∧ 40 ≤ c ∧ c < 60)
theorem Sp_r : ∀ c a j, SpP c a j → RdP c a j := fun c a j h => by simp only [SpP] at h; simp only [RdP]; omega
theorem Bl_r : ∀ c a j, BlP c a j → RdP c a j := fun c a j h => by simp only [BlP] at h; simp only [RdP]; omega
theorem c36 {X : Cx} {d : Nat} {M : Mem} {b : Nat → Nat} {n m i : Nat} (hT : Tok b n m) (h : CA M b n m i) (hi : i < m) : ∃ M', CC X (d + 1) 36 [vR 3 0] M none M' ∧ CA M' b n m (i + 1) ∧ K3 SpP M M' := by
  obtain ⟨h0, h1, h2, h3, h4, h5, h6, h14⟩ := h
  have hm := hT.1
  have hn := hT.2.1
  have e8 : M.1 3 0 8 - 1 = iN m := by rw [h4.1, iN_pred]
  refine ⟨st (st M 3 0 9 (iN (i + 1))) 3 0 10 (iN (tk b n (i + 1))), e36 (w36_0 ?_), ⟨by omega, by rw [st_ne3 (by omega), st_ne3 (by omega)]; exact h1, by rw [st_ne3 (by omega), st_at], st_at, h4.k (P := SpP) (k3_trans (k3_st (by simp [SpP])) (k3_st (by simp [SpP]))) (by simp [SpP]) (fun _ => by simp [SpP]) (fun _ => by simp [SpP]), by rw [st_ne3 (fun z => absurd z.1 (by decide)), st_ne3 (fun z => absurd z.1 (by decide))]; exact h5, by rw [st_ne3 (by omega), st_ne3 (by omega)]; exact h6, by rw [st_ne3 (by omega), st_ne3 (by omega)]; exact h14⟩, k3_trans (k3_st (by simp [SpP])) (k3_st (by simp [SpP]))⟩
  simp only [forall_eq, true_implies, false_implies, not_true_eq_false, not_false_eq_true, and_true, true_and, and_self, isB0, isB1, bI_t0, bI_f0, i10_, i20_, i01_, i02_, i12_, i21_, e8, h2, nle_ (a := m) (b := i) (by omega) (by omega) hi, show (400 ≤ iN i) = False from nle_ (a := 400) (by decide) (by omega) (by omega), iN_step, st_rd, Nat.reduceEqDiff, false_and, if_false, if_true, show inb (iN (i + 1)) 401 from inb_of (by omega) (by decide), ix_of (show i + 1 < 2147483648 by omega), (h4.2 (i + 1) (by omega)).1]
theorem c36_d {X : Cx} {d : Nat} {M : Mem} {b : Nat → Nat} {n m e p : Nat} (hT : Tok b n m) (h : DD M b n m e p) : ∃ M', CC X (d + 1) 36 [vR 3 0] M none M' ∧ DD M' b n m e p ∧ K3 SpP M M' := by
  obtain ⟨g1, g2, g3, g4, ⟨i, h0, h2⟩, h4, h5, h6⟩ := h
  have hm := hT.1
  have hn := hT.2.1
  have e8 : M.1 3 0 8 - 1 = iN m := by rw [h4.1, iN_pred]
  by_cases hi : i < m
  · refine ⟨st (st M 3 0 9 (iN (i + 1))) 3 0 10 (iN (tk b n (i + 1))), e36 (w36_0 ?_), ⟨g1, g2, by rw [st_ne3 (by omega), st_ne3 (by omega)]; exact g3, by rw [st_ne3 (by omega), st_ne3 (by omega)]; exact g4, ⟨i + 1, by omega, by rw [st_ne3 (by omega), st_at]⟩, h4.k (P := SpP) (k3_trans (k3_st (by simp [SpP])) (k3_st (by simp [SpP]))) (by simp [SpP]) (fun _ => by simp [SpP]) (fun _ => by simp [SpP]), by rw [st_ne3 (fun z => absurd z.1 (by decide)), st_ne3 (fun z => absurd z.1 (by decide))]; exact h5, by rw [st_ne3 (by omega), st_ne3 (by omega)]; exact h6⟩, k3_trans (k3_st (by simp [SpP])) (k3_st (by simp [SpP]))⟩
    simp only [forall_eq, true_implies, false_implies, not_true_eq_false, not_false_eq_true, and_true, true_and, and_self, isB0, isB1, bI_t0, bI_f0, i10_, i20_, i01_, i02_, i12_, i21_, e8, h2, nle_ (a := m) (b := i) (by omega) (by omega) hi, show (400 ≤ iN i) = False from nle_ (a := 400) (by decide) (by omega) (by omega), iN_step, st_rd, Nat.reduceEqDiff, false_and, if_false, if_true, show inb (iN (i + 1)) 401 from inb_of (by omega) (by decide), ix_of (show i + 1 < 2147483648 by omega), (h4.2 (i + 1) (by omega)).1]
  · refine ⟨M, e36 (w36_0 ?_), ⟨g1, g2, g3, g4, ⟨i, h0, h2⟩, h4, h5, h6⟩, k3_refl⟩
    simp only [forall_eq, true_implies, false_implies, not_true_eq_false, not_false_eq_true, and_true, true_and, and_self, isB0, isB1, bI_t0, bI_f0, i10_, i20_, i01_, i02_, i12_, i21_, e8, h2, yle_ (a := m) (b := i) (by omega) (by omega) (by omega)]
theorem c37 {X : Cx} {d : Nat} {M : Mem} {b : Nat → Nat} {n m i e : Nat} (hT : Tok b n m) (h : CA M b n m i) (he1 : 1 ≤ e) (he3 : e ≤ 3) : ∃ M', CC X (d + 1) 37 [vR 3 0, vI (iN e)] M none M' ∧ DD M' b n m e i ∧ K3 BlP M M' := by
  obtain ⟨h0, h1, h2, h3, h4, h5, h6, -⟩ := h
  have hm := hT.1
  have hn := hT.2.1
  have g9 : ∀ y, (st M 3 0 13 y).1 3 0 9 = iN i := fun y => by rw [st_ne3 (by omega)]; exact h2
  have g6 : ∀ y, (st M 3 0 13 y).1 6 0 i = iN (ps b n i) := fun y => by rw [st_ne3 (fun z => absurd z.1 (by decide))]; exact (h4.2 i (by omega)).2
  refine ⟨st (st M 3 0 13 (iN e)) 3 0 14 (iN (ps b n i)), e37 (w37_0 ?_), ⟨he1, he3, by rw [st_ne3 (by omega), st_at], st_at, ⟨i, h0, by rw [st_ne3 (by omega), st_ne3 (by omega)]; exact h2⟩, h4.k (P := BlP) (k3_trans (k3_st (by simp [BlP])) (k3_st (by simp [BlP]))) (by simp [BlP]) (fun _ => by simp [BlP]) (fun _ => by simp [BlP]), by rw [st_ne3 (fun z => absurd z.1 (by decide)), st_ne3 (fun z => absurd z.1 (by decide))]; exact h5, by rw [st_ne3 (by omega), st_ne3 (by omega)]; exact h6⟩, k3_trans (k3_st (by simp [BlP])) (k3_st (by simp [BlP]))⟩
  simp only [forall_eq, true_implies, false_implies, not_true_eq_false, not_false_eq_true, and_true, true_and, and_self, isB0, isB1, bI_t0, bI_f0, i10_, i20_, i01_, i02_, i12_, i21_, h1, g9, show (400 < iN i) = False from nlt_ (a := 400) (by decide) (by omega) (by omega), show inb (iN i) 401 from inb_of (by omega) (by decide), ix_of (show i < 2147483648 by omega), g6]
theorem c37_d {X : Cx} {d : Nat} {M : Mem} {b : Nat → Nat} {n m e p : Nat} {x : Int32} (h : DD M b n m e p) : CC X (d + 1) 37 [vR 3 0, vI x] M none M := by
  refine e37 (w37_0 ?_)
  simp only [forall_eq, true_implies, false_implies, not_true_eq_false, not_false_eq_true, and_true, true_and, and_self, isB0, isB1, bI_t0, bI_f0, i10_, i20_, i01_, i02_, i12_, i21_, h.ne]
/-- a token that must stand -/
theorem c38 {X : Cx} {d : Nat} {M : Mem} {b : Nat → Nat} {n m i t : Nat} (hT : Tok b n m) (h : CA M b n m i) (ht : t < 30001) (hti : tk b n i = t) : ∃ M', CC X (d + 2) 38 [vR 3 0, vI (iN t)] M none M' ∧ CA M' b n m (i + 1) ∧ K3 SpP M M' := by
  obtain ⟨M', p1, p2, p3⟩ := c36 (X := X) (d := d) hT h (tk_in hT (by omega))
  have c := c34 (X := X) (d := d) hT h (t := t) (by omega)
  rw [decide_eq_true hti] at c
  exact ⟨M', e38 (w38_0 ⟨_, _, c, fun z => absurd z (by decide), fun _ => ⟨_, p1, rfl, rfl⟩⟩), p2, p3⟩
theorem c38_f {X : Cx} {d : Nat} {M : Mem} {b : Nat → Nat} {n m i t : Nat} (hT : Tok b n m) (h : CA M b n m i) (ht : t < 30001) (hti : ¬ tk b n i = t) : ∃ M', CC X (d + 2) 38 [vR 3 0, vI (iN t)] M none M' ∧ DD M' b n m 1 i ∧ K3 BlP M M' := by
  obtain ⟨M', p1, p2, p3⟩ := c37 (X := X) (d := d) (e := 1) hT h (by decide) (by decide)
  have c := c34 (X := X) (d := d) hT h (t := t) (by omega)
  rw [decide_eq_false hti] at c
  exact ⟨M', e38 (w38_0 ⟨_, _, c, fun _ => ⟨_, p1, rfl, rfl⟩, fun z => absurd rfl z⟩), p2, p3⟩
theorem c38_d {X : Cx} {d : Nat} {M : Mem} {b : Nat → Nat} {n m e p : Nat} {x : Int32} (h : DD M b n m e p) : CC X (d + 2) 38 [vR 3 0, vI x] M none M := e38 (w38_0 ⟨_, _, c34_d h, fun _ => ⟨_, c37_d h, rfl, rfl⟩, fun z => absurd rfl z⟩)
/-- a number within bounds -/
theorem c39 {X : Cx} {d : Nat} {M : Mem} {b : Nat → Nat} {n m i : Nat} {lo hi : Int32} (hT : Tok b n m) (h : CA M b n m i) (hti : tk b n i < 10000) (hr : inR (iN (tk b n i)) lo hi = true) : ∃ M', CC X (d + 2) 39 [vR 3 0, vI lo, vI hi] M (some (vI (iN (tk b n i)))) M' ∧ CA M' b n m (i + 1) ∧ K3 SpP M M' := by
  obtain ⟨M', p1, p2, p3⟩ := c36 (X := X) (d := d) hT h (tk_in hT (by omega))
  have c := c35 (X := X) (d := d) hT h
  rw [decide_eq_true hti] at c
  have h10 := h.2.2.2.1
  simp only [inR, Bool.and_eq_true, decide_eq_true_eq] at hr
  refine ⟨M', e39 (w39_0 ⟨_, _, c, fun _ => ?_, fun z => absurd z (by decide)⟩), p2, p3⟩
  rw [h10]
  exact ⟨fun z => absurd hr.1 (Int32.not_le.mpr z), fun _ => ⟨fun _ => ⟨_, p1, rfl, rfl⟩, fun z => absurd hr.2 z⟩⟩
theorem c39_f {X : Cx} {d : Nat} {M : Mem} {b : Nat → Nat} {n m i : Nat} {lo hi : Int32} (hT : Tok b n m) (h : CA M b n m i) (hf : ¬ (tk b n i < 10000 ∧ inR (iN (tk b n i)) lo hi = true)) : ∃ M', CC X (d + 2) 39 [vR 3 0, vI lo, vI hi] M (some (vI 0)) M' ∧ DD M' b n m (if tk b n i < 10000 then 2 else 1) i ∧ K3 BlP M M' := by
  have c := c35 (X := X) (d := d) hT h
  have h10 := h.2.2.2.1
  by_cases hti : tk b n i < 10000
  · obtain ⟨M', p1, p2, p3⟩ := c37 (X := X) (d := d) (e := 2) hT h (by decide) (by decide)
    rw [decide_eq_true hti] at c
    rw [if_pos hti]
    refine ⟨M', e39 (w39_0 ⟨_, _, c, fun _ => ?_, fun z => absurd z (by decide)⟩), p2, p3⟩
    rw [h10]
    refine ⟨fun _ => ⟨_, p1, rfl, rfl⟩, fun z => ⟨fun z2 => absurd ⟨hti, ?_⟩ hf, fun _ => ⟨_, p1, rfl, rfl⟩⟩⟩
    simp only [inR, Bool.and_eq_true, decide_eq_true_eq]
    exact ⟨Int32.not_lt.mp z, z2⟩
  · obtain ⟨M', p1, p2, p3⟩ := c37 (X := X) (d := d) (e := 1) hT h (by decide) (by decide)
    rw [decide_eq_false hti] at c
    rw [if_neg hti]
    exact ⟨M', e39 (w39_0 ⟨_, _, c, fun z => absurd rfl z, fun _ => ⟨_, p1, rfl, rfl⟩⟩), p2, p3⟩
theorem c39_d {X : Cx} {d : Nat} {M : Mem} {b : Nat → Nat} {n m e p : Nat} {lo hi : Int32} (h : DD M b n m e p) : CC X (d + 2) 39 [vR 3 0, vI lo, vI hi] M (some (vI 0)) M := e39 (w39_0 ⟨_, _, c35_d h, fun z => absurd rfl z, fun _ => ⟨_, c37_d h, rfl, rfl⟩⟩)
/-- a line begins -/
theorem c40 {X : Cx} {d : Nat} {M : Mem} {b : Nat → Nat} {n m i q : Nat} (hT : Tok b n m) (h : CA M b n m i) (hi : i < m) (hq : q < 16) : ∃ M', CC X (d + 2) 40 [vR 3 0, vI 1, vI (iN q)] M none M' ∧ CA M' b n m (i + 1) ∧ K3 SpP M M' := by
  obtain ⟨M', p1, p2, p3⟩ := c36 (X := X) (d := d) hT h hi
  exact ⟨M', e40 (w40_0 ⟨fun _ => ⟨fun _ => ⟨_, p1, rfl, rfl⟩, fun z => absurd ((iN_lt (b := 16) (by omega) (by decide)).mpr hq) z⟩, fun z => absurd z (by decide)⟩), p2, p3⟩
theorem c40_f {X : Cx} {d : Nat} {M : Mem} {b : Nat → Nat} {n m i q : Nat} {f : Bool} (hT : Tok b n m) (h : CA M b n m i) (hq : q ≤ 16) (hf : f = true → q = 16) : ∃ M', CC X (d + 2) 40 [vR 3 0, vI (bI f), vI (iN q)] M none M' ∧ DD M' b n m (if f = true then 3 else 1) i ∧ K3 BlP M M' := by
  cases f with
  | true =>
    obtain ⟨M', p1, p2, p3⟩ := c37 (X := X) (d := d) (e := 3) hT h (by decide) (by decide)
    have hq16 := hf rfl
    subst hq16
    exact ⟨M', e40 (w40_0 ⟨fun _ => ⟨fun z => absurd z (by decide), fun _ => ⟨_, p1, rfl, rfl⟩⟩, fun z => absurd z (by decide)⟩), p2, p3⟩
  | false =>
    obtain ⟨M', p1, p2, p3⟩ := c37 (X := X) (d := d) (e := 1) hT h (by decide) (by decide)
    exact ⟨M', e40 (w40_0 ⟨fun z => absurd rfl z, fun _ => ⟨_, p1, rfl, rfl⟩⟩), p2, p3⟩
/-! codes are put down -/
theorem c4 {X : Cx} {d : Nat} {M : Mem} {a ln : Nat} {x : Int32} (hl : ln < 400) (h : M.1 40 a 1 = iN ln) : CC X (d + 1) 4 [vR 40 a, vI x] M none (st (st M 46 a ln x) 40 a 1 (iN (ln + 1))) := by
  refine e4 (w4_0 ?_)
  simp only [forall_eq, true_implies, false_implies, not_true_eq_false, not_false_eq_true, and_true, true_and, and_self, isB0, isB1, bI_t0, bI_f0, i10_, i20_, i01_, i02_, i12_, i21_, h, show (400 ≤ iN ln) = False from nle_ (a := 400) (by decide) (by omega) hl, show inb (iN ln) 400 from inb_of hl (by decide), ix_of (show ln < 2147483648 by omega), show ∀ y, (st M 46 a ln y).1 40 a 1 = iN ln from fun y => by rw [st_ne3 (fun z => absurd z.1 (by decide))]; exact h, iN_step]
theorem c4_d {X : Cx} {d : Nat} {M : Mem} {b : Nat → Nat} {n m e p : Nat} {x : Int32} (h : DD M b n m e p) : ∃ M', CC X (d + 1) 4 [vR 40 1, vI x] M none M' ∧ DD M' b n m e p ∧ K3 RdP M M' := by
  obtain ⟨g1, g2, g3, g4, g5, h4, ⟨ln, h5, h5b⟩, h6⟩ := h
  by_cases hl : ln < 400
  · refine ⟨_, c4 hl h5b, ⟨g1, g2, by rw [st_ne3 (fun z => absurd z.1 (by decide)), st_ne3 (fun z => absurd z.1 (by decide))]; exact g3, by rw [st_ne3 (fun z => absurd z.1 (by decide)), st_ne3 (fun z => absurd z.1 (by decide))]; exact g4, by rw [st_ne3 (fun z => absurd z.1 (by decide)), st_ne3 (fun z => absurd z.1 (by decide))]; exact g5, h4.k (P := RdP) (k3_trans (k3_st (by simp [RdP])) (k3_st (by simp [RdP]))) (by simp [RdP]) (fun _ => by simp [RdP]) (fun _ => by simp [RdP]), ⟨ln + 1, by omega, st_at⟩, by rw [st_ne3 (fun z => absurd z.1 (by decide)), st_ne3 (fun z => absurd z.1 (by decide))]; exact h6⟩, k3_trans (k3_st (by simp [RdP])) (k3_st (by simp [RdP]))⟩
  · refine ⟨M, e4 (w4_0 ?_), ⟨g1, g2, g3, g4, g5, h4, ⟨ln, h5, h5b⟩, h6⟩, k3_refl⟩
    simp only [forall_eq, true_implies, false_implies, not_true_eq_false, not_false_eq_true, and_true, true_and, and_self, isB0, isB1, bI_t0, bI_f0, i10_, i20_, i01_, i02_, i12_, i21_, h5b, show (400 ≤ iN ln) = True from yle_ (a := 400) (by decide) (by omega) (by omega)]
/-- alive, with the codes so far -/
def CL (M : Mem) (b : Nat → Nat) (n m i : Nat) (cs : Cds) : Prop := CA M b n m i ∧ M.1 40 1 1 = iN (tr cs).length ∧ SgC (M.1 46 1) 0 (tr cs) ∧ (tr cs).length ≤ i
theorem SgC_ap {f : Nat → Int32} : ∀ {l r : List Int32} {i : Nat}, SgC f i (l ++ r) ↔ SgC f i l ∧ SgC f (i + l.length) r
  | [], r, i => by simp [SgC]
  | x :: l, r, i => by
    show f i = x ∧ SgC f (i + 1) (l ++ r) ↔ (f i = x ∧ SgC f (i + 1) l) ∧ SgC f (i + (l.length + 1)) r
    rw [SgC_ap, show i + 1 + l.length = i + (l.length + 1) by omega]
    exact ⟨fun h => ⟨⟨h.1, h.2.1⟩, h.2.2⟩, fun h => ⟨h.1.1, h.1.2, h.2⟩⟩
theorem SgC_upd {f : Nat → Int32} {q : Nat} {x : Int32} : ∀ {l : List Int32} {i : Nat}, i + l.length ≤ q → SgC f i l → SgC (upd f q x) i l
  | [], _, _, _ => trivial
  | y :: l, i, hl, h => by
    simp only [List.length_cons] at hl
    exact ⟨by rw [upd_ne (by omega)]; exact h.1, SgC_upd (by omega) h.2⟩
theorem tr_app : ∀ (l r : Cds), tr (l ++ r) = tr l ++ tr r
  | [], r => rfl
  | (s, v) :: l, r => by
    show tr1 s v ++ tr (l ++ r) = (tr1 s v ++ tr l) ++ tr r
    rw [tr_app l r, List.append_assoc]
theorem tr_s {s v : Nat} (h : s ≠ 26) : tr [(s, v)] = [tok s v] := by
  show tr1 s v ++ [] = _
  unfold tr1
  rw [if_neg h, List.append_nil]
theorem tr_26 {v : Nat} : tr [(26, v)] = [iN v, 20047] := rfl
/-- one code, a token of its own -/
theorem CL.emit {X : Cx} {d : Nat} {M : Mem} {b : Nat → Nat} {n m i : Nat} {cs : Cds} {s v : Nat} {x : Int32} (hT : Tok b n m) (h : CL M b n m i cs) (hs : s ≠ 26) (hx : x = tok s v) (hl : (tr cs).length < i) : ∃ M', CC X (d + 1) 4 [vR 40 1, vI x] M none M' ∧ CL M' b n m i (cs ++ [(s, v)]) ∧ K3 (fun c a j => a = 1 ∧ ((c = 40 ∧ j = 1) ∨ c = 46)) M M' := by
  obtain ⟨⟨g0, g1, g2, g3, g4, g5, g6, g14⟩, h1, h2, h3⟩ := h
  have hm := hT.1
  have hn := hT.2.1
  have k : K3 (fun c a j => a = 1 ∧ ((c = 40 ∧ j = 1) ∨ c = 46)) M (st (st M 46 1 (tr cs).length x) 40 1 1 (iN ((tr cs).length + 1))) := k3_trans (k3_st ⟨rfl, Or.inr rfl⟩) (k3_st ⟨rfl, Or.inl ⟨rfl, rfl⟩⟩)
  refine ⟨_, c4 (by omega) h1, ⟨⟨g0, by rw [k 3 0 13 (by omega)]; exact g1, by rw [k 3 0 9 (by omega)]; exact g2, by rw [k 3 0 10 (by omega)]; exact g3, g4.k k (by omega) (fun _ => by omega) (fun _ => by omega), ⟨(tr cs).length + 1, by omega, st_at⟩, by rw [k 3 0 11 (by omega)]; exact g6, by rw [k 3 0 14 (by omega)]; exact g14⟩, ?_, ?_, ?_⟩, k⟩
  · rw [st_at, tr_app, tr_s hs, List.length_append]
    rfl
  · rw [st_ne (fun z => absurd z.1 (by decide)), st_eq, tr_app, tr_s hs, SgC_ap, Nat.zero_add]
    exact ⟨SgC_upd (by omega) h2, by rw [upd_at]; exact hx, trivial⟩
  · rw [tr_app, tr_s hs, List.length_append]
    show (tr cs).length + 1 ≤ i
    omega
