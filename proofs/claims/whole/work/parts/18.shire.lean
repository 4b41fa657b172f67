/-! small contracts: bounds, counts, sums of the land -/
theorem c146 {X : Cx} {d : Nat} {M : Mem} {v lo hi : Int32} : CC X (d + 1) 146 [vI v, vI lo, vI hi] M (some (vI (bI (inR v lo hi)))) M := by
  refine e146 (w146_0 ?_)
  simp only [isB0, isB1, true_and, and_true, Option.some.injEq, Sum.inl.injEq, bI, inR]
  grind
theorem c151 {X : Cx} {d : Nat} {M : Mem} {v lo hi : Int32} : CC X (d + 1) 151 [vI v, vI lo, vI hi] M (some (vI (bI (inR v lo hi)))) M := by
  refine e151 (w151_0 ?_)
  simp only [isB0, isB1, true_and, and_true, Option.some.injEq, Sum.inl.injEq, bI, inR]
  grind
theorem c55 {X : Cx} {d : Nat} {M : Mem} {a : Nat} {v : Int32} : CC X (d + 1) 55 [vR 20 a, vI v] M (some (vI (bI (has v (M.1 20 a 5) 10)))) M := by
  refine e55 (w55_0 ?_)
  simp only [isB0, isB1, true_and, and_true, Option.some.injEq, Sum.inl.injEq, bI, has]
  grind
theorem c56 {X : Cx} {d : Nat} {M : Mem} {a : Nat} {v : Int32} : CC X (d + 1) 56 [vR 20 a, vI v] M (some (vI (bI (has v (M.1 20 a 6) 8)))) M := by
  refine e56 (w56_0 ?_)
  simp only [isB0, isB1, true_and, and_true, Option.some.injEq, Sum.inl.injEq, bI, has]
  grind
theorem c57 {X : Cx} {d : Nat} {M : Mem} {a : Nat} {v : Int32} : CC X (d + 1) 57 [vR 20 a, vI v] M (some (vI (bI (has v (M.1 20 a 7) 12)))) M := by
  refine e57 (w57_0 ?_)
  simp only [isB0, isB1, true_and, and_true, Option.some.injEq, Sum.inl.injEq, bI, has]
  grind
theorem has_iN {p n : Int32} {k : Nat} (hk : k < 2147483648) (h : has p n (iN k) = true) : ∃ j : Nat, p = iN j ∧ j < k ∧ iN j < n := by
  simp only [has, Bool.and_eq_true, decide_eq_true_eq] at h
  obtain ⟨j, rfl, hj⟩ := iN_of_lt hk h.1.1 h.2
  exact ⟨j, rfl, hj, h.1.2⟩
theorem c58 {X : Cx} {d : Nat} {M : Mem} {a : Nat} {p f e : Int32} : CC X (d + 2) 58 [vR 20 a, vI p, vI f, vI e] M (some (vI (bI (has p (M.1 20 a 7) 12 && has f (M.1 20 a 5) 10 && has e (M.1 20 a 6) 8)))) M := by
  refine e58 (w58_0 ⟨_, _, c57, bI_if (fun h => ⟨isB0, by rw [h]; rfl, rfl⟩) (fun h => ⟨_, _, c55, bI_if (fun h2 => ⟨isB0, by rw [h, h2]; rfl, rfl⟩) (fun h2 => ⟨_, _, c56, bI_if (fun h3 => ⟨isB0, by rw [h, h2, h3]; rfl, rfl⟩) (fun h3 => ⟨isB1, by rw [h, h2, h3]; rfl, rfl⟩)⟩)⟩)⟩)
def load (T : Ld) (p : Nat) : Int32 := sumI (fun f => T 29 (p * 10 + f)) 10
def acres (T : Ld) (e : Nat) : Int32 := sumI (fun f => T 24 (e * 10 + f)) 10
theorem okT29 {k j : Nat} (hk : k < 12) (hj : j < 10) : okC 29 (k * 10 + j) = true := by simp [okC]; omega
theorem okT24 {k j : Nat} (hk : k < 8) (hj : j < 10) : okC 24 (k * 10 + j) = true := by simp [okC]; omega
theorem c63 {X : Cx} {d : Nat} {M : Mem} {a : Nat} {p : Int32} : CC X (d + 2) 63 [vR 20 a, vI p] M (some (vI (if has p (M.1 20 a 7) 12 = true then load (TC M a) (ix p) else 0))) M := by
  refine e63 (w63_0 ⟨_, _, c57, bI_if (fun h => ⟨by rw [if_neg (by rw [h]; decide)], rfl⟩) (fun h => ?_)⟩)
  rw [if_pos h]
  obtain ⟨k, rfl, hk, -⟩ := has_iN (k := 12) (by decide) h
  rw [ix_of (by omega)]
  refine for_up (P := fun j => V X (d + 2) 63 12 [some (vR 20 a), some (vI (iN k)), some (vI (sumI (fun f => TC M a 29 (k * 10 + f)) j)), some (vI (iN j))] [] M _) (n := 10) (fun j hj hP => ?_) ?_
  · have e1 : iN k * 10 + iN j = iN (k * 10 + j) := by simp only [iN_lit, iN_mul, iN_add]
    refine w63_12 ⟨fun h => absurd ((iN_le (a := 10) (by decide) (by omega)).mp h) (by omega), fun _ => ⟨by rw [e1]; exact inb_of (by omega) (by decide), ?_⟩⟩
    rw [e1, ix_of (by omega), ← TC_rd (M := M) (a := a) (okT29 hk hj), show iN j + 1 = iN (j + 1) by simp only [iN_lit, iN_add]]
    exact hP
  · exact w63_12 ⟨fun _ => ⟨rfl, rfl⟩, fun h => absurd ((iN_le (a := 10) (b := 10) (by decide) (by omega)).mpr (Nat.le_refl 10)) h⟩
theorem c65 {X : Cx} {d : Nat} {M : Mem} {a : Nat} {p : Int32} : CC X (d + 2) 65 [vR 20 a, vI p] M (some (vI (if has p (M.1 20 a 6) 8 = true then acres (TC M a) (ix p) else 0))) M := by
  refine e65 (w65_0 ⟨_, _, c56, bI_if (fun h => ⟨by rw [if_neg (by rw [h]; decide)], rfl⟩) (fun h => ?_)⟩)
  rw [if_pos h]
  obtain ⟨k, rfl, hk, -⟩ := has_iN (k := 8) (by decide) h
  rw [ix_of (by omega)]
  refine for_up (P := fun j => V X (d + 2) 65 12 [some (vR 20 a), some (vI (iN k)), some (vI (sumI (fun f => TC M a 24 (k * 10 + f)) j)), some (vI (iN j))] [] M _) (n := 10) (fun j hj hP => ?_) ?_
  · have e1 : iN k * 10 + iN j = iN (k * 10 + j) := by simp only [iN_lit, iN_mul, iN_add]
    refine w65_12 ⟨fun h => absurd ((iN_le (a := 10) (by decide) (by omega)).mp h) (by omega), fun _ => ⟨by rw [e1]; exact inb_of (by omega) (by decide), ?_⟩⟩
    rw [e1, ix_of (by omega), ← TC_rd (M := M) (a := a) (okT24 hk hj), show iN j + 1 = iN (j + 1) by simp only [iN_lit, iN_add]]
    exact hP
  · exact w65_12 ⟨fun _ => ⟨rfl, rfl⟩, fun h => absurd ((iN_le (a := 10) (b := 10) (by decide) (by omega)).mpr (Nat.le_refl 10)) h⟩
theorem iN_step (j : Nat) : iN j + 1 = iN (j + 1) := by simp only [iN_lit, iN_add]
theorem iN_10 (k j : Nat) : iN k * 10 + iN j = iN (k * 10 + j) := by simp only [iN_lit, iN_mul, iN_add]
/-- who holds a field: the doors below e, the holder and its heap -/
def holdS (T : Ld) (f : Nat) : Nat → Int32 × Int32
  | 0 => (-1, 0)
  | e + 1 => if T 24 (e * 10 + f) ≤ (holdS T f e).2 then holdS T f e else (iN e, T 24 (e * 10 + f))
def holder (T : Ld) (f : Nat) : Int32 := (holdS T f (ix (T 20 6))).1
/-- the counts of a land are as they may be -/
def cntT (T : Ld) : Prop := (∃ n : Nat, n ≤ 10 ∧ T 20 5 = iN n) ∧ (∃ n : Nat, n ≤ 8 ∧ T 20 6 = iN n) ∧ ∃ n : Nat, n ≤ 12 ∧ T 20 7 = iN n
theorem TC20 {M : Mem} {a j : Nat} (h : j < 8) : TC M a 20 j = M.1 20 a j := TC_rd (by simpa [okC] using h)
theorem c66 {X : Cx} {d : Nat} {M : Mem} {a f : Nat} (hc : cntT (TC M a)) (hf : iN f < M.1 20 a 5) (hf2 : f < 10) : CC X (d + 2) 66 [vR 20 a, vI (iN f)] M (some (vI (holder (TC M a) f))) M := by
  obtain ⟨-, ⟨n, hn, he⟩, -⟩ := hc
  unfold holder
  rw [he, ix_of (by omega)]
  rw [TC20 (by decide)] at he
  have hasf : has (iN f) (M.1 20 a 5) 10 = true := by
    simp only [has, Bool.and_eq_true, decide_eq_true_eq]
    exact ⟨⟨iN_nn (by omega), hf⟩, (iN_lt (b := 10) (by omega) (by decide)).mpr hf2⟩
  refine e66 (w66_0 ?_)
  refine for_up (P := fun j => V X (d + 2) 66 7 [some (vR 20 a), some (vI (iN f)), some (vI (holdS (TC M a) f j).1), some (vI (holdS (TC M a) f j).2), some (vI (iN j))] [] M _) (n := n) (fun j hj hP => ?_) ?_
  · have hasd : has (iN j) (M.1 20 a 6) 8 = true := by
      simp only [has, Bool.and_eq_true, decide_eq_true_eq]
      rw [he]
      exact ⟨⟨iN_nn (by omega), (iN_lt (by omega) (by omega)).mpr hj⟩, (iN_lt (b := 8) (by omega) (by decide)).mpr (by omega)⟩
    refine w66_7 ⟨fun h => absurd ((iN_le (by omega) (by omega)).mp (he ▸ h)) (by omega), fun _ => ⟨_, _, c56, bI_if (fun h => by rw [hasd] at h; cases h) (fun _ => ⟨_, _, c55, bI_if (fun h => by rw [hasf] at h; cases h) (fun _ => ?_)⟩)⟩⟩
    rw [iN_10, ix_of (by omega), ← TC_rd (M := M) (a := a) (okT24 (by omega) hf2), iN_step]
    have hi : inb (iN (j * 10 + f)) 80 := inb_of (by omega) (by decide)
    refine ⟨hi, fun h => ?_, fun h => ⟨hi, ?_⟩⟩
    · have e1 : holdS (TC M a) f (j + 1) = holdS (TC M a) f j := if_pos h
      rw [← e1]
      exact hP
    · have e1 : holdS (TC M a) f (j + 1) = (iN j, TC M a 24 (j * 10 + f)) := if_neg h
      rw [e1] at hP
      exact hP
  · refine w66_7 ⟨fun _ => ⟨rfl, rfl⟩, fun h => absurd ?_ h⟩
    rw [he]
    exact (iN_le (by omega) (by omega)).mpr (Nat.le_refl n)
