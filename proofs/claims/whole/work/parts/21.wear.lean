/-! whose heel, couples -/
def ab (x y : Int32) : Int32 := if x ≤ y then y - x else x - y
theorem ab_abs {x y : Int32} (h1 : inR x 0 99 = true) (h2 : inR y 0 99 = true) : (if 0 ≤ x - y then x - y else 0 - (x - y)) = ab x y := by
  simp only [inR, Bool.and_eq_true, decide_eq_true_eq] at h1 h2
  unfold ab
  grind
theorem ab_le {x y : Int32} (h1 : inR x 0 99 = true) (h2 : inR y 0 99 = true) : 0 ≤ ab x y ∧ ab x y ≤ 99 := by
  simp only [inR, Bool.and_eq_true, decide_eq_true_eq] at h1 h2
  unfold ab
  grind
theorem far_lt {x y u v : Int32} (h1 : inR x 0 99 = true) (h2 : inR y 0 99 = true) (h3 : inR u 0 99 = true) (h4 : inR v 0 99 = true) : ¬ 1000000 ≤ ab x y + ab u v := by
  have a1 := ab_le h1 h2
  have a2 := ab_le h3 h4
  grind
def far (f g : Nat → Int32) (l r : Int32) (j : Nat) : Int32 := ab (f j) l + ab (g j) r
def nearB (f g : Nat → Int32) (l r : Int32) : Nat → Nat
  | 0 => 0
  | n + 1 => if far f g l r (nearB f g l r n) ≤ far f g l r (n + 1) then nearB f g l r n else n + 1
def nearest (f g : Nat → Int32) (l r : Int32) : Nat → Int32
  | 0 => -1
  | n + 1 => iN (nearB f g l r n)
def leastB (f g : Nat → Int32) (l r : Int32) : Nat → Int32
  | 0 => 1000000
  | n + 1 => far f g l r (nearB f g l r n)
theorem inR_two {x y : Int32} {a b c e : Int32} (h : (inR x a b && inR y c e) = true) : inR x a b = true ∧ inR y c e = true := by
  rw [Bool.and_eq_true] at h
  exact h
theorem c76 {X : Cx} {d : Nat} {M : Mem} {a n : Nat} {l r : Int32} (hn : n ≤ 10) (h : M.1 80 a 0 = iN n) (hG : ∀ j, j < n → (inR (M.1 81 a j) 0 99 && inR (M.1 82 a j) 0 99) = true) (hl : inR l 0 99 = true) (hr : inR r 0 99 = true) :
    CC X (d + 1) 76 [vR 70 a, vI l, vI r] M (some (vI (nearest (M.1 81 a) (M.1 82 a) l r n))) M := by
  refine e76 (w76_0 ?_)
  refine for_up (P := fun j => V X (d + 1) 76 9 [some (vR 70 a), some (vI l), some (vI r), some (vI (nearest (M.1 81 a) (M.1 82 a) l r j)), some (vI (leastB (M.1 81 a) (M.1 82 a) l r j)), some (vI (iN j)), none] [] M _) (n := n) (fun j hj hP => ?_) ?_
  · obtain ⟨g1, g2⟩ := inR_two (hG j hj)
    have hi : inb (iN j) 10 := inb_of (by omega) (by decide)
    refine w76_9 ⟨fun z => absurd ((iN_le (by omega) (by omega)).mp (h ▸ z)) (by omega), fun _ => ⟨fun z => absurd ((iN_le (a := 10) (by decide) (by omega)).mp z) (by omega), fun _ => ⟨hi, hi, ?_⟩⟩⟩
    rw [ix_of (by omega), ab_abs g1 hl, ab_abs g2 hr, iN_step]
    rcases j with _ | j
    · refine ⟨fun z => absurd z (far_lt g1 hl g2 hr), fun _ => hP⟩
    · have e0 : ab (M.1 81 a (j + 1)) l + ab (M.1 82 a (j + 1)) r = far (M.1 81 a) (M.1 82 a) l r (j + 1) := rfl
      rw [e0]
      refine ⟨fun z => ?_, fun z => ?_⟩
      · have e1 : nearB (M.1 81 a) (M.1 82 a) l r (j + 1) = nearB (M.1 81 a) (M.1 82 a) l r j := if_pos z
        simp only [nearest, leastB, e1] at hP
        exact hP
      · have e1 : nearB (M.1 81 a) (M.1 82 a) l r (j + 1) = j + 1 := if_neg z
        simp only [nearest, leastB, e1] at hP
        exact hP
  · refine w76_9 ⟨fun _ => ⟨rfl, rfl⟩, fun z => absurd ?_ z⟩
    rw [h]
    exact (iN_le (by omega) (by omega)).mpr (Nat.le_refl n)
theorem c154 {X : Cx} {d : Nat} {M : Mem} {x y : Int32} : CC X (d + 1) 154 [vI x, vI y] M (some (vI (ab x y))) M :=
  e154 (w154_0 ⟨fun h => ⟨by rw [ab, if_pos h], rfl⟩, fun h => ⟨by rw [ab, if_neg h], rfl⟩⟩)
theorem iN_557 (j : Nat) : 557 + 2 * iN j = iN (557 + 2 * j) := by simp only [iN_lit, iN_mul, iN_add]
theorem c250 {X : Cx} {d : Nat} {M : Mem} {j : Nat} {l r : Int32} (hj : j < 10) : CC X (d + 2) 250 [vR 100 0, vI (iN j), vI l, vI r] M (some (vI (ab (M.1 101 0 (557 + 2 * j)) l + ab (M.1 101 0 (557 + 2 * j + 1)) r))) M := by
  refine e250 (w250_0 ?_)
  rw [iN_557, iN_step, ix_of (by omega), ix_of (by omega)]
  exact ⟨inb_of (by omega) (by decide), _, _, c154, inb_of (by omega) (by decide), _, _, c154, rfl, rfl⟩
theorem c251 {X : Cx} {d : Nat} {M : Mem} {n : Nat} {l r : Int32} {f g : Nat → Int32} (hn : n ≤ 10) (h : M.1 101 0 236 = iN n) (hf : ∀ j, j < n → M.1 101 0 (557 + 2 * j) = f j) (hg : ∀ j, j < n → M.1 101 0 (557 + 2 * j + 1) = g j) :
    CC X (d + 3) 251 [vR 100 0, vI l, vI r] M (some (vI (if (inR l 0 99 && inR r 0 99) = true then nearest f g l r n else -1))) M := by
  have hi : inb 236 2129 := inb_l (by decide) (by decide)
  have hx : ix 236 = 236 := ix_l (by decide)
  refine e251 (w251_0 ⟨_, _, c151, bI_if (fun h1 => ⟨by rw [h1]; rfl, rfl⟩) (fun h1 => ⟨_, _, c151, bI_if (fun h2 => ⟨by rw [h1, h2]; rfl, rfl⟩) (fun h2 => ⟨hi, fun z => ?_, fun z => ⟨?_, rfl⟩⟩)⟩)⟩)
  · rw [hx, h] at z
    have hc : (if (inR l 0 99 && inR r 0 99) = true then nearest f g l r n else -1) = nearest f g l r n := by rw [h1, h2]; rfl
    rw [hc]
    obtain ⟨m, rfl⟩ : ∃ m, n = m + 1 := by
      rcases n with _ | m
      · exact absurd rfl z
      · exact ⟨m, rfl⟩
    refine for_up (P := fun j => V X (d + 3) 251 38 [some (vR 100 0), some (vI l), some (vI r), some (vI (iN (nearB f g l r j))), some (vI (iN (j + 1)))] [] M _) (n := m) (fun j hj hP => ?_) ?_
    · have hb : ∀ k, nearB f g l r k ≤ k := by
        intro k
        induction k with
        | zero => exact Nat.le_refl 0
        | succ k ih => simp only [nearB]; split <;> omega
      have hbj := hb j
      refine w251_38 ⟨hi, fun y => absurd y ?_, fun _ => ⟨_, _, c250 (by omega), _, _, c250 (by omega), ?_⟩⟩
      · rw [hx, h]
        exact fun y => absurd ((iN_le (by omega) (by omega)).mp y) (by omega)
      · rw [hf (j + 1) (by omega), hg (j + 1) (by omega), hf (nearB f g l r j) (by omega), hg (nearB f g l r j) (by omega), iN_step]
        refine ⟨fun y => ?_, fun y => ?_⟩
        · have e1 : nearB f g l r (j + 1) = nearB f g l r j := if_pos y
          rw [e1] at hP
          exact hP
        · have e1 : nearB f g l r (j + 1) = j + 1 := if_neg y
          rw [e1] at hP
          exact hP
    · refine w251_38 ⟨hi, fun _ => ⟨rfl, rfl⟩, fun y => absurd ?_ y⟩
      rw [hx, h]
      exact (iN_le (by omega) (by omega)).mpr (Nat.le_refl _)
  · rw [hx, h] at z
    have h0 : n = 0 := (iN_inj (b := 0) (by omega) (by decide)).mp z
    subst h0
    split <;> rfl
abbrev GW : Int32 → Int32 → Bool := fun x y => inR x 0 99 && inR y 0 99
theorem c129 {X : Cx} {d : Nat} {M : Mem} {n : Nat} {l r : Int32} (hn : n ≤ 10) (h : M.1 80 0 0 = iN n) (hG : ∀ j, j < n → (inR (M.1 81 0 j) 0 99 && inR (M.1 82 0 j) 0 99) = true) :
    CC X (d + 2) 129 [vR 2 0, vI l, vI r] M (some (vI (if (inR l 0 99 && inR r 0 99) = true then nearest (M.1 81 0) (M.1 82 0) l r n else -1))) M := by
  refine e129 (w129_0 ⟨_, _, c146, bI_if (fun h1 => ⟨fun _ => ⟨by rw [h1]; rfl, rfl⟩, fun z => absurd rfl z⟩) (fun h1 => ⟨_, _, c146, bI_if (fun h2 => ⟨fun _ => ⟨by rw [h1, h2]; rfl, rfl⟩, fun z => absurd rfl z⟩) (fun h2 => ⟨fun z => absurd z (by decide), fun _ => ⟨_, _, c76 hn h hG h1 h2, ?_, rfl⟩⟩)⟩)⟩)
  rw [h1, h2]
  rfl
/-- whose, both -/
theorem op129 {X : Cx} {d : Nat} {M : Mem} {n : Nat} {l r : Int32} (h : ToldR M 80 0 (M.1 101 0) 236 557 2 10 GW n) : ∃ (x : Int32), CC X (d + 3) 129 [vR 2 0, vI l, vI r] M (some (vI x)) M ∧ CC X (d + 3) 251 [vR 100 0, vI l, vI r] M (some (vI x)) M := by
  obtain ⟨q1, q2, q3, q4, q5, q6⟩ := h
  exact ⟨_, c129 q1 q2 q6, c251 q1 q3 (fun j hj => (q4 j hj).symm) (fun j hj => (q5 rfl j hj).symm)⟩
/-! couples: the pairs (i, j), j below i -/
def cupI (f g : Nat → Int32) (e : Int32) (i : Nat) : Nat → Int32 → Int32
  | 0, s => s
  | j + 1, s => if e < far f g (f j) (g j) i then cupI f g e i j s else cupI f g e i j s + 1
def cup (f g : Nat → Int32) (e : Int32) : Nat → Int32
  | 0 => 0
  | i + 1 => cupI f g e i i (cup f g e i)
theorem c77 {X : Cx} {d : Nat} {M : Mem} {a n : Nat} {e : Int32} (hn : n ≤ 10) (h : M.1 80 a 0 = iN n) (hG : ∀ j, j < n → (inR (M.1 81 a j) 0 99 && inR (M.1 82 a j) 0 99) = true) :
    CC X (d + 1) 77 [vR 70 a, vI e] M (some (vI (cup (M.1 81 a) (M.1 82 a) e n))) M := by
  refine e77 (w77_0 ?_)
  refine for_up (P := fun j => V X (d + 1) 77 4 [some (vR 70 a), some (vI e), some (vI (cup (M.1 81 a) (M.1 82 a) e j)), some (vI (iN j)), none, none] [] M _) (n := n) (fun i hi hP => ?_) ?_
  · refine w77_4 ⟨fun z => absurd ((iN_le (by omega) (by omega)).mp (h ▸ z)) (by omega), fun _ => ⟨fun z => absurd ((iN_le (a := 10) (by decide) (by omega)).mp z) (by omega), fun _ => ?_⟩⟩
    obtain ⟨g1, g2⟩ := inR_two (hG i hi)
    have hib : inb (iN i) 10 := inb_of (by omega) (by decide)
    refine for_up (P := fun j => V X (d + 1) 77 24 [some (vR 70 a), some (vI e), some (vI (cupI (M.1 81 a) (M.1 82 a) e i j (cup (M.1 81 a) (M.1 82 a) e i))), some (vI (iN i)), some (vI (iN j)), none] [] M _) (n := i) (fun j hj hP2 => ?_) ?_
    · obtain ⟨g3, g4⟩ := inR_two (hG j (by omega))
      have hjb : inb (iN j) 10 := inb_of (by omega) (by decide)
      refine w77_24 ⟨fun z => absurd ((iN_le (by omega) (by omega)).mp z) (by omega), fun _ => ⟨hib, hjb, hib, hjb, ?_⟩⟩
      rw [ix_of (by omega), ix_of (by omega), ab_abs g1 g3, ab_abs g2 g4, iN_step]
      refine ⟨fun z => ?_, fun z => ?_⟩
      · have e1 : cupI (M.1 81 a) (M.1 82 a) e i (j + 1) (cup (M.1 81 a) (M.1 82 a) e i) = cupI (M.1 81 a) (M.1 82 a) e i j (cup (M.1 81 a) (M.1 82 a) e i) := if_pos z
        rw [e1] at hP2
        exact hP2
      · have e1 : cupI (M.1 81 a) (M.1 82 a) e i (j + 1) (cup (M.1 81 a) (M.1 82 a) e i) = cupI (M.1 81 a) (M.1 82 a) e i j (cup (M.1 81 a) (M.1 82 a) e i) + 1 := if_neg z
        rw [e1] at hP2
        exact hP2
    · refine w77_24 ⟨fun _ => ?_, fun z => absurd ((iN_le (by omega) (by omega)).mpr (Nat.le_refl i)) z⟩
      rw [iN_step]
      exact hP
  · refine w77_4 ⟨fun _ => ⟨rfl, rfl⟩, fun z => absurd ?_ z⟩
    rw [h]
    exact (iN_le (by omega) (by omega)).mpr (Nat.le_refl n)
theorem c252 {X : Cx} {d : Nat} {M : Mem} {n : Nat} {e : Int32} {f g : Nat → Int32} (hn : n ≤ 10) (h : M.1 101 0 236 = iN n) (hf : ∀ j, j < n → M.1 101 0 (557 + 2 * j) = f j) (hg : ∀ j, j < n → M.1 101 0 (557 + 2 * j + 1) = g j) :
    CC X (d + 3) 252 [vR 100 0, vI e] M (some (vI (if inR e 0 198 = true then cup f g e n else -1))) M := by
  have hi : inb 236 2129 := inb_l (by decide) (by decide)
  have hx : ix 236 = 236 := ix_l (by decide)
  refine e252 (w252_0 ⟨_, _, c151, bI_if1 (fun h1 => ?_) (fun h1 => ⟨by rw [h1]; rfl, rfl⟩)⟩)
  rw [if_pos h1]
  refine for_up (P := fun j => V X (d + 3) 252 17 [some (vR 100 0), some (vI e), some (vI (cup f g e j)), some (vI (iN j)), none] [] M _) (n := n) (fun i hj hP => ?_) ?_
  · refine w252_17 ⟨hi, fun y => absurd y ?_, fun _ => ?_⟩
    · rw [hx, h]
      exact fun y => absurd ((iN_le (by omega) (by omega)).mp y) (by omega)
    · refine for_up (P := fun j => V X (d + 3) 252 32 [some (vR 100 0), some (vI e), some (vI (cupI f g e i j (cup f g e i))), some (vI (iN i)), some (vI (iN j))] [] M _) (n := i) (fun j hj2 hP2 => ?_) ?_
      · refine w252_32 ⟨fun z => absurd ((iN_le (by omega) (by omega)).mp z) (by omega), fun _ => ?_⟩
        rw [iN_557, iN_step, ix_of (by omega), ix_of (by omega)]
        refine ⟨inb_of (by omega) (by decide), inb_of (by omega) (by decide), _, _, c250 (by omega), ?_⟩
        rw [hf j (by omega), hg j (by omega), hf i (by omega), hg i (by omega), iN_step]
        refine ⟨fun z => ?_, fun z => ?_⟩
        · have e1 : cupI f g e i (j + 1) (cup f g e i) = cupI f g e i j (cup f g e i) := if_pos z
          rw [e1] at hP2
          rw [Int32.add_zero]
          exact hP2
        · have e1 : cupI f g e i (j + 1) (cup f g e i) = cupI f g e i j (cup f g e i) + 1 := if_neg z
          rw [e1] at hP2
          exact hP2
      · refine w252_32 ⟨fun _ => ?_, fun z => absurd ((iN_le (by omega) (by omega)).mpr (Nat.le_refl i)) z⟩
        rw [iN_step]
        exact hP
  · refine w252_17 ⟨hi, fun _ => ⟨rfl, rfl⟩, fun y => absurd ?_ y⟩
    rw [hx, h]
    exact (iN_le (by omega) (by omega)).mpr (Nat.le_refl _)
/-- couples, both -/
theorem op130 {X : Cx} {d : Nat} {M : Mem} {n : Nat} {e : Int32} (h : ToldR M 80 0 (M.1 101 0) 236 557 2 10 GW n) : ∃ (x : Int32), CC X (d + 3) 130 [vR 2 0, vI e] M (some (vI x)) M ∧ CC X (d + 3) 252 [vR 100 0, vI e] M (some (vI x)) M := by
  obtain ⟨q1, q2, q3, q4, q5, q6⟩ := h
  refine ⟨_, e130 (w130_0 ⟨_, _, c146, bI_if (fun h1 => ⟨?_, rfl⟩) (fun h1 => ⟨_, _, c77 q1 q2 q6, ?_, rfl⟩)⟩), c252 q1 q3 (fun j hj => (q4 j hj).symm) (fun j hj => (q5 rfl j hj).symm)⟩
  · rw [h1]; rfl
  · rw [h1]; rfl
