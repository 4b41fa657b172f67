/-! the reference's readers of the land -/
theorem TW_c {w : Nat → Int32} {c j : Nat} (h : okC c j = true) : mcell w c j = TW w c j := (TW_rd h).symm
theorem inR_has {v : Int32} {n k : Nat} (hn : n ≤ k) (hk : k < 2147483648) : inR v 0 (iN n - 1) = has v (iN n) (iN k) := by
  have h1 : (iN n).toInt = n := iN_toInt (by omega)
  have h2 : (iN k).toInt = k := iN_toInt hk
  have a1 : (0 : Int32) ≤ iN n := iN_nn (by omega)
  have a2 : iN n ≤ iN k := (iN_le (by omega) hk).mpr hn
  generalize iN n = N at *
  generalize iN k = K at *
  simp only [inR, has]
  grind
theorem c155 {X : Cx} {d : Nat} {M : Mem} {n : Nat} {v : Int32} (h : M.1 101 0 229 = iN n) (hn : n ≤ 10) : CC X (d + 2) 155 [vR 100 0, vI v] M (some (vI (bI (has v (iN n) 10)))) M := by
  have c := c151 (X := X) (d := d) (M := M) (v := v) (lo := 0) (hi := iN n - 1)
  rw [inR_has (k := 10) hn (by decide)] at c
  refine e155 (w155_0 ⟨inb_l (by decide) (by decide), ?_⟩)
  rw [show ix 229 = 229 from ix_l (by decide), h]
  exact ⟨_, _, c, isB_bI _, rfl, rfl⟩
theorem c156 {X : Cx} {d : Nat} {M : Mem} {n : Nat} {v : Int32} (h : M.1 101 0 230 = iN n) (hn : n ≤ 8) : CC X (d + 2) 156 [vR 100 0, vI v] M (some (vI (bI (has v (iN n) 8)))) M := by
  have c := c151 (X := X) (d := d) (M := M) (v := v) (lo := 0) (hi := iN n - 1)
  rw [inR_has (k := 8) hn (by decide)] at c
  refine e156 (w156_0 ⟨inb_l (by decide) (by decide), ?_⟩)
  rw [show ix 230 = 230 from ix_l (by decide), h]
  exact ⟨_, _, c, isB_bI _, rfl, rfl⟩
theorem c157 {X : Cx} {d : Nat} {M : Mem} {n : Nat} {v : Int32} (h : M.1 101 0 231 = iN n) (hn : n ≤ 12) : CC X (d + 2) 157 [vR 100 0, vI v] M (some (vI (bI (has v (iN n) 12)))) M := by
  have c := c151 (X := X) (d := d) (M := M) (v := v) (lo := 0) (hi := iN n - 1)
  rw [inR_has (k := 12) hn (by decide)] at c
  refine e157 (w157_0 ⟨inb_l (by decide) (by decide), ?_⟩)
  rw [show ix 231 = 231 from ix_l (by decide), h]
  exact ⟨_, _, c, isB_bI _, rfl, rfl⟩
theorem iN_109 (k j : Nat) : 109 + 10 * iN k + iN j = iN (109 + (k * 10 + j)) := by
  simp only [iN_lit, iN_mul, iN_add]
  rw [show 109 + 10 * k + j = 109 + (k * 10 + j) by omega]
theorem iN_29 (k j : Nat) : 29 + 10 * iN k + iN j = iN (29 + (k * 10 + j)) := by
  simp only [iN_lit, iN_mul, iN_add]
  rw [show 29 + 10 * k + j = 29 + (k * 10 + j) by omega]
theorem c206 {X : Cx} {d : Nat} {M : Mem} {p : Nat} (hp : p < 12) : CC X (d + 1) 206 [vR 100 0, vI (iN p)] M (some (vI (load (TM M) p))) M := by
  refine e206 (w206_0 ?_)
  refine for_up (P := fun j => V X (d + 1) 206 4 [some (vR 100 0), some (vI (iN p)), some (vI (sumI (fun f => TM M 29 (p * 10 + f)) j)), some (vI (iN j))] [] M _) (n := 10) (fun j hj hP => ?_) ?_
  · refine w206_4 ⟨fun h => absurd ((iN_le (a := 10) (by decide) (by omega)).mp h) (by omega), fun _ => ?_⟩
    rw [iN_109, ix_of (by omega), iN_step]
    refine ⟨inb_of (by omega) (by decide), ?_⟩
    have e : M.1 101 0 (109 + (p * 10 + j)) = TM M 29 (p * 10 + j) := TW_c (okT29 hp hj)
    rw [e]
    exact hP
  · exact w206_4 ⟨fun _ => ⟨rfl, rfl⟩, fun h => absurd ((iN_le (a := 10) (b := 10) (by decide) (by omega)).mpr (Nat.le_refl 10)) h⟩
theorem c231 {X : Cx} {d : Nat} {M : Mem} {p : Nat} (hp : p < 8) : CC X (d + 1) 231 [vR 100 0, vI (iN p)] M (some (vI (acres (TM M) p))) M := by
  refine e231 (w231_0 ?_)
  refine for_up (P := fun j => V X (d + 1) 231 4 [some (vR 100 0), some (vI (iN p)), some (vI (sumI (fun f => TM M 24 (p * 10 + f)) j)), some (vI (iN j))] [] M _) (n := 10) (fun j hj hP => ?_) ?_
  · refine w231_4 ⟨fun h => absurd ((iN_le (a := 10) (by decide) (by omega)).mp h) (by omega), fun _ => ?_⟩
    rw [iN_29, ix_of (by omega), iN_step]
    refine ⟨inb_of (by omega) (by decide), ?_⟩
    have e : M.1 101 0 (29 + (p * 10 + j)) = TM M 24 (p * 10 + j) := TW_c (okT24 hp hj)
    rw [e]
    exact hP
  · exact w231_4 ⟨fun _ => ⟨rfl, rfl⟩, fun h => absurd ((iN_le (a := 10) (b := 10) (by decide) (by omega)).mpr (Nat.le_refl 10)) h⟩
/-- the holder's heap is what the holder has -/
theorem holdS_inv (T : Ld) (f : Nat) : ∀ n : Nat, ((holdS T f n).1 = -1 ∧ (holdS T f n).2 = 0) ∨ ∃ e : Nat, e < n ∧ (holdS T f n).1 = iN e ∧ (holdS T f n).2 = T 24 (e * 10 + f)
  | 0 => Or.inl ⟨rfl, rfl⟩
  | n + 1 => by
    by_cases h : T 24 (n * 10 + f) ≤ (holdS T f n).2
    · have e1 : holdS T f (n + 1) = holdS T f n := if_pos h
      rw [e1]
      rcases holdS_inv T f n with h1 | ⟨e, h1, h2, h3⟩
      · exact Or.inl h1
      · exact Or.inr ⟨e, by omega, h2, h3⟩
    · have e1 : holdS T f (n + 1) = (iN n, T 24 (n * 10 + f)) := if_neg h
      rw [e1]
      exact Or.inr ⟨n, by omega, rfl, rfl⟩
theorem c229 {X : Cx} {d : Nat} {M : Mem} {f : Nat} (hc : cntT (TM M)) (hf : f < 10) : CC X (d + 1) 229 [vR 100 0, vI (iN f)] M (some (vI (holder (TM M) f))) M := by
  obtain ⟨-, ⟨n, hn, he⟩, -⟩ := hc
  have hi : inb 230 2129 := inb_l (by decide) (by decide)
  have hx : ix 230 = 230 := ix_l (by decide)
  unfold holder
  rw [he, ix_of (by omega)]
  have he : M.1 101 0 230 = iN n := (TW_c (c := 20) (j := 6) (by decide)).trans he
  refine e229 (w229_0 ?_)
  refine for_up (P := fun j => V X (d + 1) 229 4 [some (vR 100 0), some (vI (iN f)), some (vI (holdS (TM M) f j).1), some (vI (iN j))] [] M _) (n := n) (fun j hj hP => ?_) ?_
  · have ej : M.1 101 0 (ix (29 + 10 * iN j + iN f)) = TM M 24 (j * 10 + f) := by rw [iN_29, ix_of (by omega)]; exact TW_c (okT24 (by omega) hf)
    refine w229_4 ⟨hi, fun z => ?_, fun _ => ⟨by rw [iN_29]; exact inb_of (by omega) (by decide), ?_⟩⟩
    · rw [hx, he] at z
      exact absurd ((iN_le (by omega) (by omega)).mp z) (by omega)
    · rw [ej, iN_step]
      have hstep : ∀ v, (TM M 24 (j * 10 + f) ≤ (holdS (TM M) f j).2 → v = (holdS (TM M) f j).1) → (¬ TM M 24 (j * 10 + f) ≤ (holdS (TM M) f j).2 → v = iN j) → v = (holdS (TM M) f (j + 1)).1 := by
        intro v h1 h2
        by_cases h : TM M 24 (j * 10 + f) ≤ (holdS (TM M) f j).2
        · have e1 : holdS (TM M) f (j + 1) = holdS (TM M) f j := if_pos h
          rw [e1]
          exact h1 h
        · have e1 : holdS (TM M) f (j + 1) = (iN j, TM M 24 (j * 10 + f)) := if_neg h
          rw [e1]
          exact h2 h
      rcases holdS_inv (TM M) f j with ⟨h1, h2⟩ | ⟨e, h1, h2, h3⟩
      · refine ⟨fun z => absurd h1 z, fun _ => ?_⟩
        rw [h2] at hstep
        refine ⟨fun z => ?_, fun z => ?_⟩
        · rw [hstep (holdS (TM M) f j).1 (fun _ => rfl) (fun y => absurd z y)]
          exact hP
        · rw [hstep (iN j) (fun y => absurd y z) (fun _ => rfl)]
          exact hP
      · have ee : M.1 101 0 (ix (29 + 10 * (holdS (TM M) f j).1 + iN f)) = (holdS (TM M) f j).2 := by rw [h2, iN_29, ix_of (by omega), h3]; exact TW_c (okT24 (by omega) hf)
        rw [ee]
        refine ⟨fun _ => ⟨?_, fun z => ?_, fun z => ?_⟩, fun z => absurd z ?_⟩
        · rw [h2, iN_29]
          exact inb_of (by omega) (by decide)
        · rw [hstep (holdS (TM M) f j).1 (fun _ => rfl) (fun y => absurd z y)]
          exact hP
        · rw [hstep (iN j) (fun y => absurd y z) (fun _ => rfl)]
          exact hP
        · rw [h2]
          intro z
          have := iN_nn (n := e) (by omega)
          rw [z] at this
          exact absurd this (by decide)
  · refine w229_4 ⟨hi, fun _ => ⟨rfl, rfl⟩, fun z => absurd ?_ z⟩
    rw [hx, he]
    exact (iN_le (by omega) (by omega)).mpr (Nat.le_refl n)
/-! the fields that a door holds -/
def county (T : Ld) (e : Int32) : Nat → Int32
  | 0 => 0
  | f + 1 => if holder T f = e then county T e f ||| (1 <<< (iN f &&& 31)) else county T e f
theorem c67 {X : Cx} {d : Nat} {M : Mem} {a : Nat} {e : Int32} {n : Nat} (hc : cntT (TC M a)) (h5 : M.1 20 a 5 = iN n) (hn : n ≤ 10) : CC X (d + 3) 67 [vR 20 a, vI e] M (some (vI (county (TC M a) e n))) M := by
  refine e67 (w67_0 ?_)
  refine for_up (P := fun j => V X (d + 3) 67 4 [some (vR 20 a), some (vI e), some (vI (county (TC M a) e j)), some (vI (iN j))] [] M _) (n := n) (fun j hj hP => ?_) ?_
  · refine w67_4 ⟨fun z => absurd ((iN_le (by omega) (by omega)).mp (h5 ▸ z)) (by omega), fun _ => ⟨_, _, c66 hc (by rw [h5]; exact (iN_lt (by omega) (by omega)).mpr hj) (by omega), fun z => ?_, fun z => ?_⟩⟩
    · have e1 : county (TC M a) e (j + 1) = county (TC M a) e j := if_neg z
      rw [e1] at hP
      rw [iN_step]
      exact hP
    · have e1 : county (TC M a) e (j + 1) = county (TC M a) e j ||| (1 <<< (iN j &&& 31)) := if_pos z
      rw [e1] at hP
      rw [iN_step]
      exact hP
  · refine w67_4 ⟨fun _ => ⟨rfl, rfl⟩, fun z => absurd ?_ z⟩
    rw [h5]
    exact (iN_le (by omega) (by omega)).mpr (Nat.le_refl n)
theorem c232 {X : Cx} {d : Nat} {M : Mem} {e : Int32} {n : Nat} (hc : cntT (TM M)) (h5 : M.1 101 0 229 = iN n) (hn : n ≤ 10) : CC X (d + 3) 232 [vR 100 0, vI e] M (some (vI (county (TM M) e n))) M := by
  have hi : inb 229 2129 := inb_l (by decide) (by decide)
  have hx : ix 229 = 229 := ix_l (by decide)
  refine e232 (w232_0 ?_)
  refine for_up (P := fun j => V X (d + 3) 232 4 [some (vR 100 0), some (vI e), some (vI (county (TM M) e j)), some (vI (iN j))] [] M _) (n := n) (fun j hj hP => ?_) ?_
  · refine w232_4 ⟨hi, fun z => ?_, fun _ => ⟨_, _, c229 hc (by omega), fun z => ?_, fun z => ?_⟩⟩
    · rw [hx, h5] at z
      exact absurd ((iN_le (by omega) (by omega)).mp z) (by omega)
    · have e1 : county (TM M) e (j + 1) = county (TM M) e j := if_neg z
      rw [e1] at hP
      rw [iN_step, Int32.or_zero]
      exact hP
    · have e1 : county (TM M) e (j + 1) = county (TM M) e j ||| (1 <<< (iN j &&& 31)) := if_pos z
      rw [e1] at hP
      rw [iN_step]
      exact hP
  · refine w232_4 ⟨hi, fun _ => ⟨rfl, rfl⟩, fun z => absurd ?_ z⟩
    rw [hx, h5]
    exact (iN_le (by omega) (by omega)).mpr (Nat.le_refl n)
