/-! what a widow is offered -/
def gtr (x y : Int32) : Int32 := if x ≤ y then y else x
theorem gtr_max (x y : Int32) : (if x < y then y else x) = gtr x y := by unfold gtr; grind
theorem c153 {X : Cx} {d : Nat} {M : Mem} {x y : Int32} : CC X (d + 1) 153 [vI x, vI y] M (some (vI (gtr x y))) M :=
  e153 (w153_0 ⟨fun h => ⟨by rw [gtr, if_pos h], rfl⟩, fun h => ⟨by rw [gtr, if_neg h], rfl⟩⟩)
def great (f g : Nat → Int32) (t : Int32) : Nat → Int32
  | 0 => -1
  | n + 1 => if f n = t then gtr (great f g t n) (g n) else great f g t n
theorem c83 {X : Cx} {d : Nat} {M : Mem} {a n : Nat} {t : Int32} (hn : n ≤ 8) (h : M.1 89 a 0 = iN n) : CC X (d + 1) 83 [vR 70 a, vI t] M (some (vI (great (M.1 90 a) (M.1 91 a) t n))) M := by
  refine e83 (w83_0 ?_)
  refine for_up (P := fun j => V X (d + 1) 83 4 [some (vR 70 a), some (vI t), some (vI (great (M.1 90 a) (M.1 91 a) t j)), some (vI (iN j))] [] M _) (n := n) (fun j hj hP => ?_) ?_
  · have hi : inb (iN j) 8 := inb_of (by omega) (by decide)
    refine w83_4 ⟨fun z => absurd ((iN_le (by omega) (by omega)).mp (h ▸ z)) (by omega), fun _ => ⟨fun z => absurd ((iN_le (a := 8) (by decide) (by omega)).mp z) (by omega), fun _ => ⟨hi, ?_⟩⟩⟩
    rw [ix_of (by omega), gtr_max, iN_step]
    refine ⟨fun z => ?_, fun z => ⟨hi, ?_⟩⟩
    · have e1 : great (M.1 90 a) (M.1 91 a) t (j + 1) = great (M.1 90 a) (M.1 91 a) t j := if_neg z
      rw [e1] at hP
      exact hP
    · have e1 : great (M.1 90 a) (M.1 91 a) t (j + 1) = gtr (great (M.1 90 a) (M.1 91 a) t j) (M.1 91 a j) := if_pos z
      rw [e1] at hP
      exact hP
  · refine w83_4 ⟨fun _ => ⟨rfl, rfl⟩, fun z => absurd ?_ z⟩
    rw [h]
    exact (iN_le (by omega) (by omega)).mpr (Nat.le_refl n)
def most (gr : Int32 → Int32) (but : Int32) : Nat → Int32
  | 0 => -1
  | j + 1 => if iN j = but then most gr but j else if gr (iN j) ≤ gr (most gr but j) then most gr but j else iN j
theorem c82 {X : Cx} {d : Nat} {M : Mem} {a n : Nat} {t : Int32} (hn : n ≤ 8) (h : M.1 89 a 0 = iN n) : CC X (d + 2) 82 [vR 70 a, vI t] M (some (vI (most (fun t => great (M.1 90 a) (M.1 91 a) t n) t 4))) M := by
  refine e82 (w82_0 ?_)
  refine for_up (P := fun j => V X (d + 2) 82 4 [some (vR 70 a), some (vI t), some (vI (most (fun t => great (M.1 90 a) (M.1 91 a) t n) t j)), some (vI (iN j))] [] M _) (n := 4) (fun j hj hP => ?_) ?_
  · refine w82_4 ⟨fun z => absurd ((iN_le (a := 4) (by decide) (by omega)).mp z) (by omega), fun _ => ⟨fun z => ?_, fun z => ⟨_, _, c83 hn h, _, _, c83 hn h, fun z2 => ?_, fun z2 => ?_⟩⟩⟩
    · have e1 : most (fun t => great (M.1 90 a) (M.1 91 a) t n) t (j + 1) = most (fun t => great (M.1 90 a) (M.1 91 a) t n) t j := if_pos z
      rw [e1] at hP
      rw [iN_step]
      exact hP
    · have e1 : most (fun t => great (M.1 90 a) (M.1 91 a) t n) t (j + 1) = most (fun t => great (M.1 90 a) (M.1 91 a) t n) t j := (if_neg z).trans (if_pos z2)
      rw [e1] at hP
      rw [iN_step]
      exact hP
    · have e1 : most (fun t => great (M.1 90 a) (M.1 91 a) t n) t (j + 1) = iN j := (if_neg z).trans (if_neg z2)
      rw [e1] at hP
      rw [iN_step]
      exact hP
  · exact w82_4 ⟨fun _ => ⟨rfl, rfl⟩, fun z => absurd ((iN_le (a := 4) (b := 4) (by decide) (by decide)).mpr (Nat.le_refl 4)) z⟩
theorem c260 {X : Cx} {d : Nat} {M : Mem} {n : Nat} {t : Int32} {f g : Nat → Int32} (hn : n ≤ 8) (h : M.1 101 0 239 = iN n) (hf : ∀ j, j < n → M.1 101 0 (617 + 2 * j) = f j) (hg : ∀ j, j < n → M.1 101 0 (617 + 2 * j + 1) = g j) : CC X (d + 2) 260 [vR 100 0, vI t] M (some (vI (great f g t n))) M := by
  have hi : inb 239 2129 := inb_l (by decide) (by decide)
  have hx : ix 239 = 239 := ix_l (by decide)
  have e617 : ∀ j : Nat, 617 + 2 * iN j = iN (617 + 2 * j) := fun j => by simp only [iN_lit, iN_mul, iN_add]
  refine e260 (w260_0 ?_)
  refine for_up (P := fun j => V X (d + 2) 260 4 [some (vR 100 0), some (vI t), some (vI (great f g t j)), some (vI (iN j))] [] M _) (n := n) (fun j hj hP => ?_) ?_
  · refine w260_4 ⟨hi, fun y => absurd y ?_, fun _ => ?_⟩
    · rw [hx, h]
      exact fun y => absurd ((iN_le (by omega) (by omega)).mp y) (by omega)
    · rw [e617, iN_step (617 + 2 * j), ix_of (by omega), ix_of (by omega), hf j hj, hg j hj, iN_step]
      refine ⟨inb_of (by omega) (by decide), fun z => ?_, fun z => ⟨inb_of (by omega) (by decide), _, _, c153, ?_⟩⟩
      · have e1 : great f g t (j + 1) = great f g t j := if_neg z
        rw [e1] at hP
        exact hP
      · have e1 : great f g t (j + 1) = gtr (great f g t j) (g j) := if_pos z
        rw [e1] at hP
        exact hP
  · refine w260_4 ⟨hi, fun _ => ⟨rfl, rfl⟩, fun y => absurd ?_ y⟩
    rw [hx, h]
    exact (iN_le (by omega) (by omega)).mpr (Nat.le_refl _)
def mstB (gr : Int32 → Int32) : Nat → Int32
  | 0 => 0
  | j + 1 => if gr (iN (j + 1)) ≤ gr (mstB gr j) then mstB gr j else iN (j + 1)
def nxtB (gr : Int32 → Int32) (b : Int32) : Nat → Int32
  | 0 => 0
  | j + 1 => if iN j = b then nxtB gr b j else gtr (nxtB gr b j) (gr (iN j))
theorem c261 {X : Cx} {d : Nat} {M : Mem} {n : Nat} {q : Int32} {f g : Nat → Int32} (hn : n ≤ 8) (h : M.1 101 0 239 = iN n) (hf : ∀ j, j < n → M.1 101 0 (617 + 2 * j) = f j) (hg : ∀ j, j < n → M.1 101 0 (617 + 2 * j + 1) = g j) :
    CC X (d + 3) 261 [vR 100 0, vI q] M (some (vI (if (inR q 0 1) = true ∧ ¬ n = 0 then (if q = 0 then mstB (fun t => great f g t n) 3 else nxtB (fun t => great f g t n) (mstB (fun t => great f g t n) 3) 4) else -1))) M := by
  have hi : inb 239 2129 := inb_l (by decide) (by decide)
  have hx : ix 239 = 239 := ix_l (by decide)
  refine e261 (w261_0 ⟨_, _, c151, bI_if (fun h1 => ⟨by rw [h1]; rfl, rfl⟩) (fun h1 => ⟨hi, fun z => ?_, fun z => ⟨?_, rfl⟩⟩)⟩)
  · have h0 : ¬ n = 0 := fun y => z (by rw [hx, h, y]; rfl)
    rw [if_pos ⟨h1, h0⟩]
    refine for_up (P := fun j => V X (d + 3) 261 26 [some (vR 100 0), some (vI q), some (vI (mstB (fun t => great f g t n) j)), some (vI (iN (j + 1))), none] [] M _) (n := 3) (fun j hj hP => ?_) ?_
    · refine w261_26 ⟨fun z => absurd ((iN_le (a := 4) (by decide) (by omega)).mp z) (by omega), fun _ => ⟨_, _, c260 hn h hf hg, _, _, c260 hn h hf hg, fun z2 => ?_, fun z2 => ?_⟩⟩
      · have e1 : mstB (fun t => great f g t n) (j + 1) = mstB (fun t => great f g t n) j := if_pos z2
        rw [e1] at hP
        rw [iN_step]
        exact hP
      · have e1 : mstB (fun t => great f g t n) (j + 1) = iN (j + 1) := if_neg z2
        rw [e1] at hP
        rw [iN_step]
        exact hP
    · refine w261_26 ⟨fun _ => ⟨fun hq => ?_, fun hq => ⟨by rw [if_pos hq], rfl⟩⟩, fun z => absurd ((iN_le (a := 4) (b := 4) (by decide) (by decide)).mpr (Nat.le_refl 4)) z⟩
      rw [if_neg hq]
      refine for_up (P := fun j => V X (d + 3) 261 63 [some (vR 100 0), none, some (vI (mstB (fun t => great f g t n) 3)), some (vI (nxtB (fun t => great f g t n) (mstB (fun t => great f g t n) 3) j)), some (vI (iN j))] [] M _) (n := 4) (fun j hj hP => ?_) ?_
      · refine w261_63 ⟨fun z => absurd ((iN_le (a := 4) (by decide) (by omega)).mp z) (by omega), fun _ => ⟨fun z => ?_, fun z => ⟨_, _, c260 hn h hf hg, _, _, c153, ?_⟩⟩⟩
        · have e1 : nxtB (fun t => great f g t n) (mstB (fun t => great f g t n) 3) (j + 1) = nxtB (fun t => great f g t n) (mstB (fun t => great f g t n) 3) j := if_pos z
          rw [e1] at hP
          rw [iN_step]
          exact hP
        · have e1 : nxtB (fun t => great f g t n) (mstB (fun t => great f g t n) 3) (j + 1) = gtr (nxtB (fun t => great f g t n) (mstB (fun t => great f g t n) 3) j) (great f g (iN j) n) := if_neg z
          rw [e1] at hP
          rw [iN_step]
          exact hP
      · exact w261_63 ⟨fun _ => ⟨rfl, rfl⟩, fun z => absurd ((iN_le (a := 4) (b := 4) (by decide) (by decide)).mpr (Nat.le_refl 4)) z⟩
  · rw [hx, h] at z
    have h0 : n = 0 := (iN_inj (b := 0) (by omega) (by decide)).mp z
    rw [if_neg (fun y => y.2 h0)]
/-! four numbers -/
theorem four_who (gr : Int32 → Int32) (hm : gr (-1) = -1) (h0 : -1 ≤ gr 0) (h1 : -1 ≤ gr 1) (h2 : -1 ≤ gr 2) (h3 : -1 ≤ gr 3) (hx : 0 ≤ gr 0 ∨ 0 ≤ gr 1 ∨ 0 ≤ gr 2 ∨ 0 ≤ gr 3) : most gr (-1) 4 = mstB gr 3 := by
  have e0 : iN 0 = 0 := rfl
  have e1 : iN 1 = 1 := rfl
  have e2 : iN 2 = 2 := rfl
  have e3 : iN 3 = 3 := rfl
  simp only [most, mstB, e0, e1, e2, e3, Nat.zero_add, Nat.reduceAdd]
  generalize ha : gr 0 = a at *
  generalize hb : gr 1 = b at *
  generalize hc : gr 2 = c at *
  generalize he : gr 3 = e at *
  repeat' split
  all_goals first | rfl | (exfalso; grind)
theorem four_next (gr : Int32 → Int32) (hm : gr (-1) = -1) (h0 : -1 ≤ gr 0) (h1 : -1 ≤ gr 1) (h2 : -1 ≤ gr 2) (h3 : -1 ≤ gr 3) (b : Int32) (hb : b = 0 ∨ b = 1 ∨ b = 2 ∨ b = 3) : (if 0 < gr (most gr b 4) then gr (most gr b 4) else 0) = nxtB gr b 4 := by
  have e0 : iN 0 = 0 := rfl
  have e1 : iN 1 = 1 := rfl
  have e2 : iN 2 = 2 := rfl
  have e3 : iN 3 = 3 := rfl
  rcases hb with rfl | rfl | rfl | rfl
  all_goals
    simp only [most, nxtB, e0, e1, e2, e3, gtr]
    simp (decide := true) only [if_true, if_false]
    generalize ha : gr 0 = a at *
    generalize hb : gr 1 = b at *
    generalize hc : gr 2 = c at *
    generalize he : gr 3 = e at *
    repeat' split
    all_goals grind
