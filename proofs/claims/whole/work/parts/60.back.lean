/-! back, both: rings of gardens -/
def rC (g : Nat → Nat) (s : Nat) : Nat → Nat → Nat → Nat
  | 0, y, o => if y = s then o else 0
  | f + 1, y, o => if s < y then rC g s f (g y) (o + 1) else if y = s then o else 0
def pB (g : Nat → Nat) : Nat → Nat × Nat
  | 0 => (0, 0)
  | s + 1 => if rC g s 8 (g s) 0 = 0 then pB g s else ((pB g s).1 + rC g s 8 (g s) 0, (pB g s).2 + 1)
def pcB (k : Nat) : Nat := k % 2 + k / 2 % 2 + k / 4 % 2 + k / 8 % 2 + k / 16 % 2 + k / 32 % 2 + k / 64 % 2 + k / 128 % 2
theorem pc_t : ∀ k : Nat, k < 256 → pcB k ≤ 8 ∧ ∀ v : Nat, v < 8 → (k ||| 2 ^ v) < 256 ∧ (Nat.testBit k v = false → pcB (k ||| 2 ^ v) = pcB k + 1) ∧ (Nat.testBit k v = true → k ||| 2 ^ v = k) := by decide +kernel
theorem pc_i : ∀ k : Nat, k < 256 → ∀ v : Nat, v < 8 → (iN k ||| ((1 : Int32) <<< (iN v &&& 31)) = iN (k ||| 2 ^ v)) ∧ ((iN k >>> (iN v &&& 31)) &&& 1 = if Nat.testBit k v = true then 1 else 0) := by decide +kernel
theorem tb_or {k v z : Nat} : Nat.testBit (k ||| 2 ^ v) z = true ↔ (Nat.testBit k z = true ∨ z = v) := by
  rw [Nat.testBit_or, Bool.or_eq_true, Nat.testBit_two_pow, decide_eq_true_eq]
  constructor
  · rintro (h | h)
    · exact Or.inl h
    · exact Or.inr h.symm
  · rintro (h | h)
    · exact Or.inl h
    · exact Or.inr h.symm
def orG (g : Nat → Nat) : Nat → Nat
  | 0 => 0
  | i + 1 => orG g i ||| 2 ^ g i
def itG (g : Nat → Nat) : Nat → Nat → Nat
  | 0, y => y
  | n + 1, y => g (itG g n y)
theorem itG_add {g : Nat → Nat} {y b : Nat} : ∀ a : Nat, itG g (a + b) y = itG g a (itG g b y)
  | 0 => by rw [Nat.zero_add]; rfl
  | a + 1 => by
    rw [show a + 1 + b = (a + b) + 1 by omega]
    show g (itG g (a + b) y) = g (itG g a (itG g b y))
    rw [itG_add a]
theorem itG_lt {g : Nat → Nat} (hg : ∀ j, j < 8 → g j < 8) {y : Nat} (hy : y < 8) : ∀ n : Nat, itG g n y < 8
  | 0 => hy
  | n + 1 => hg _ (itG_lt hg hy n)
theorem itG_inj {g : Nat → Nat} (hg : ∀ j, j < 8 → g j < 8) (hi : ∀ i j, i < 8 → j < 8 → g i = g j → i = j) {x y : Nat} (hx : x < 8) (hy : y < 8) : ∀ n : Nat, itG g n x = itG g n y → x = y
  | 0, h => h
  | n + 1, h => itG_inj hg hi hx hy n (hi _ _ (itG_lt hg hx n) (itG_lt hg hy n) h)
theorem orG_lt {g : Nat → Nat} (hg : ∀ j, j < 8 → g j < 8) : ∀ i : Nat, i ≤ 8 → orG g i < 256 ∧ pcB (orG g i) ≤ i
  | 0, _ => (show (0 : Nat) < 256 ∧ pcB 0 ≤ 0 by decide)
  | i + 1, h => by
    have h1 := orG_lt hg i (by omega)
    have h2 := (pc_t _ h1.1).2 _ (hg i (by omega))
    refine ⟨h2.1, ?_⟩
    show pcB (orG g i ||| 2 ^ g i) ≤ i + 1
    cases hb : Nat.testBit (orG g i) (g i) with
    | false => rw [h2.2.1 hb]; omega
    | true => rw [h2.2.2 hb]; omega
theorem orG_mem {g : Nat → Nat} : ∀ {i j : Nat}, j < i → Nat.testBit (orG g i) (g j) = true
  | i + 1, j, h => by
    show Nat.testBit (orG g i ||| 2 ^ g i) (g j) = true
    rw [tb_or]
    by_cases hj : j = i
    · exact Or.inr (by rw [hj])
    · exact Or.inl (orG_mem (by omega))
theorem orG_fresh {g : Nat → Nat} (hg : ∀ j, j < 8 → g j < 8) : ∀ t i : Nat, i + t = 8 → pcB (orG g 8) = 8 → pcB (orG g i) = i
  | 0, i, h, h8 => by
    have : i = 8 := by omega
    rw [this]
    exact h8
  | t + 1, i, h, h8 => by
    have h1 := orG_lt hg i (by omega)
    have h2 := (pc_t _ h1.1).2 _ (hg i (by omega))
    have h3 : pcB (orG g i ||| 2 ^ g i) = i + 1 := orG_fresh hg t (i + 1) (by omega) h8
    cases hb : Nat.testBit (orG g i) (g i) with
    | false => have := h2.2.1 hb; omega
    | true => rw [h2.2.2 hb] at h3; omega
theorem orG_inj {g : Nat → Nat} (hg : ∀ j, j < 8 → g j < 8) (h : orG g 8 = 255) : ∀ i j, i < 8 → j < 8 → g i = g j → i = j := by
  have h8 : pcB (orG g 8) = 8 := by rw [h]; decide
  have key : ∀ i j, j < i → i < 8 → g i ≠ g j := by
    intro i j hji hi he
    have h1 := orG_lt hg i (by omega)
    have h2 := (pc_t _ h1.1).2 _ (hg i hi)
    have h3 := orG_fresh hg (8 - i) i (by omega) h8
    have h4 : pcB (orG g i ||| 2 ^ g i) = i + 1 := orG_fresh hg (7 - i) (i + 1) (by omega) h8
    have h5 : Nat.testBit (orG g i) (g i) = true := by rw [he]; exact orG_mem hji
    rw [h2.2.2 h5] at h4
    omega
  intro i j hi hj he
  rcases Nat.lt_trichotomy i j with h1 | h1 | h1
  · exact absurd he.symm (key j i h1 hj)
  · exact h1
  · exact absurd he (key i j h1 hi)
/-- the class's ring from s, where an element less than s is met -/
theorem rC_no {g : Nat → Nat} {s j : Nat} (hj : itG g j s < s) (hmin : ∀ t, t < j → ¬ itG g t s < s) : ∀ (f i : Nat), i + 1 ≤ j → rC g s f (itG g (i + 1) s) i = 0 := by
  have neq : ∀ i, i + 1 ≤ j → itG g (i + 1) s ≠ s := by
    intro i hij he
    by_cases h1 : i + 1 = j
    · rw [h1] at he
      omega
    · have h2 := itG_add (g := g) (y := s) (b := i + 1) (j - (i + 1))
      rw [he, show j - (i + 1) + (i + 1) = j by omega] at h2
      exact hmin (j - (i + 1)) (by omega) (by rw [← h2]; exact hj)
  intro f
  induction f with
  | zero =>
    intro i hij
    exact if_neg (neq i hij)
  | succ f ih =>
    intro i hij
    show (if s < itG g (i + 1) s then rC g s f (g (itG g (i + 1) s)) (i + 1) else if itG g (i + 1) s = s then i else 0) = 0
    by_cases h1 : s < itG g (i + 1) s
    · rw [if_pos h1]
      have hne : i + 1 ≠ j := fun z => by rw [z] at h1; omega
      exact ih (i + 1) (by omega)
    · rw [if_neg h1, if_neg (neq i hij)]
/-- the class's ring from its least element -/
theorem rC_yes {g : Nat → Nat} {s n : Nat} (hn : itG g n s = s) (hmin : ∀ t, 1 ≤ t → t < n → itG g t s ≠ s) (hge : ∀ t, s ≤ itG g t s) (h8 : n ≤ 8) : ∀ (f i : Nat), i + f = 8 → i + 1 ≤ n → rC g s f (itG g (i + 1) s) i = n - 1
  | 0, i, h1, h2 => by omega
  | f + 1, i, h1, h2 => by
    show (if s < itG g (i + 1) s then rC g s f (g (itG g (i + 1) s)) (i + 1) else if itG g (i + 1) s = s then i else 0) = n - 1
    by_cases h3 : i + 1 = n
    · rw [h3, hn, if_neg (by omega), if_pos rfl]
      omega
    · have h4 := hmin (i + 1) (by omega) (by omega)
      have h5 := hge (i + 1)
      rw [if_pos (by omega)]
      exact rC_yes hn hmin hge h8 f (i + 1) (by omega) (by omega)
/-- what the reference has seen before it begins at s -/
def SeenI (g : Nat → Nat) (k s : Nat) : Prop := k < 256 ∧ (∀ y, y < s → y < 8 → Nat.testBit k y = true) ∧ (∀ y, y < 8 → Nat.testBit k y = true → ∃ j, itG g j y < s) ∧ ∀ y, y < 8 → Nat.testBit k (g y) = true → Nat.testBit k y = true
theorem least {P : Nat → Prop} (j : Nat) (h : P j) : ∃ i, P i ∧ ∀ t, t < i → ¬ P t := by
  induction j using Nat.strongRecOn with
  | ind j ih =>
    by_cases h1 : ∃ t, t < j ∧ P t
    · obtain ⟨t, h2, h3⟩ := h1
      exact ih t h2 h3
    · exact ⟨j, h, fun t ht hp => h1 ⟨t, ht, hp⟩⟩
theorem c248_in {X : Cx} {d : Nat} {M : Mem} {g : Nat → Nat} {x1 x4 x5 x6 : Int32} {k0 s : Nat} (hg : ∀ j, j < 8 → g j < 8 ∧ M.1 101 0 (549 + j) = iN (g j)) (hi : ∀ i j, i < 8 → j < 8 → g i = g j → i = j) (hs : s < 8) (h0 : Nat.testBit k0 s = false) (hK : ∀ y, y < 8 → Nat.testBit k0 (g y) = true → Nat.testBit k0 y = true) (hk0 : k0 < 256) :
    ∀ (f n k : Nat), pcB k + f = 8 → pcB k0 + n = pcB k → k < 256 → (∀ z, z < 8 → (Nat.testBit k z = true ↔ (Nat.testBit k0 z = true ∨ ∃ i, i < n ∧ z = itG g i s))) → (∀ t, 1 ≤ t → t < n → itG g t s ≠ s) →
    ∃ n' k' : Nat, 1 ≤ n' ∧ n' ≤ 8 ∧ k' < 256 ∧ itG g n' s = s ∧ (∀ t, 1 ≤ t → t < n' → itG g t s ≠ s) ∧ (∀ z, z < 8 → (Nat.testBit k' z = true ↔ (Nat.testBit k0 z = true ∨ ∃ i, i < n' ∧ z = itG g i s))) ∧
      ∀ Q : Option Vl → Mem → Prop, V X (d + 2) 248 60 [some (vR 100 0), some (vI x1), none, some (vI (iN k')), some (vI (x4 + iN (n' - 1))), some (vI (x5 + (if n' ≤ 1 then 0 else 1))), some (vI (x6 + 1)), none, none] [] M Q → V X (d + 2) 248 74 [some (vR 100 0), some (vI x1), none, some (vI (iN k)), some (vI x4), some (vI x5), some (vI x6), some (vI (iN n)), some (vI (iN (itG g n s)))] [] M Q := by
  intro f
  have hgl : ∀ j, j < 8 → g j < 8 := fun j hj => (hg j hj).1
  have out : ∀ i, Nat.testBit k0 (itG g i s) = false := by
    intro i
    induction i with
    | zero => exact h0
    | succ i ih =>
      cases hb : Nat.testBit k0 (itG g (i + 1) s) with
      | false => rfl
      | true =>
        have := hK _ (itG_lt hgl hs i) hb
        rw [ih] at this
        cases this
  induction f with
  | zero =>
    intro n k h1 h2 h3 h4 h5
    -- all eight are seen
    have all8 : ∀ k : Nat, k < 256 → pcB k = 8 → k = 255 := by decide +kernel
    have e := all8 k h3 (by omega)
    have hb : Nat.testBit k (itG g n s) = true := by
      rw [e]
      exact (show ∀ v : Nat, v < 8 → Nat.testBit 255 v = true by decide) _ (itG_lt hgl hs n)
    rcases (h4 _ (itG_lt hgl hs n)).mp hb with h6 | ⟨i, hin, he⟩
    · rw [out n] at h6
      cases h6
    · have hz : itG g (n - i) s = s := by
        have h7 := itG_add (g := g) (y := s) (b := n - i) i
        rw [show i + (n - i) = n by omega] at h7
        exact itG_inj hgl hi (itG_lt hgl hs _) hs i (by rw [← h7, he])
      have hi0 : i = 0 := by
        by_cases h8 : i = 0
        · exact h8
        · exact absurd hz (h5 (n - i) (by omega) (by omega))
      rw [hi0, Nat.sub_zero] at hz
      have hp := (pc_t k h3).1
      refine ⟨n, k, by omega, by omega, h3, hz, h5, h4, fun Q hQ => w248_74 ?_⟩
      have b := (pc_i k h3 _ (itG_lt hgl hs n)).2
      rw [if_pos hb] at b
      have gz : gtr 0 (iN n - 1) = iN (n - 1) := by
        rw [show iN n - 1 = iN (n - 1) from iN_sub (b := 1) (by omega)]
        unfold gtr
        rw [if_pos (iN_nn (by omega))]
      refine ⟨fun _ => ⟨_, _, c153, ?_⟩, fun z => by rw [b] at z; exact absurd z (by decide)⟩
      rw [gz]
      by_cases hn1 : n ≤ 1
      · rw [if_pos hn1] at hQ
        exact ⟨fun _ => hQ, fun z => absurd ((iN_le (b := 1) (by omega) (by decide)).mpr hn1) z⟩
      · rw [if_neg hn1] at hQ
        exact ⟨fun z => absurd ((iN_le (b := 1) (by omega) (by decide)).mp z) hn1, fun _ => hQ⟩
  | succ f ih =>
    intro n k h1 h2 h3 h4 h5
    have hp := (pc_t k h3).1
    have hy := itG_lt hgl hs n
    have b := (pc_i k h3 _ hy).2
    cases hb : Nat.testBit k (itG g n s) with
    | true =>
      rcases (h4 _ hy).mp hb with h6 | ⟨i, hin, he⟩
      · rw [out n] at h6
        cases h6
      · have hz : itG g (n - i) s = s := by
          have h7 := itG_add (g := g) (y := s) (b := n - i) i
          rw [show i + (n - i) = n by omega] at h7
          exact itG_inj hgl hi (itG_lt hgl hs _) hs i (by rw [← h7, he])
        have hi0 : i = 0 := by
          by_cases h8 : i = 0
          · exact h8
          · exact absurd hz (h5 (n - i) (by omega) (by omega))
        rw [hi0, Nat.sub_zero] at hz
        refine ⟨n, k, by omega, by omega, h3, hz, h5, h4, fun Q hQ => w248_74 ?_⟩
        rw [if_pos hb] at b
        have gz : gtr 0 (iN n - 1) = iN (n - 1) := by
          rw [show iN n - 1 = iN (n - 1) from iN_sub (b := 1) (by omega)]
          unfold gtr
          rw [if_pos (iN_nn (by omega))]
        refine ⟨fun _ => ⟨_, _, c153, ?_⟩, fun z => by rw [b] at z; exact absurd z (by decide)⟩
        rw [gz]
        by_cases hn1 : n ≤ 1
        · rw [if_pos hn1] at hQ
          exact ⟨fun _ => hQ, fun z => absurd ((iN_le (b := 1) (by omega) (by decide)).mpr hn1) z⟩
        · rw [if_neg hn1] at hQ
          exact ⟨fun z => absurd ((iN_le (b := 1) (by omega) (by decide)).mp z) hn1, fun _ => hQ⟩
    | false =>
      have tt := (pc_t k h3).2 _ hy
      have t2 := tt.2.1 hb
      obtain ⟨n', k', r1, r2, r3, r4, r5, r6, r7⟩ := ih (n + 1) (k ||| 2 ^ itG g n s) (by omega) (by omega) tt.1 (fun z hz => by
        rw [tb_or, h4 z hz]
        constructor
        · rintro ((h6 | ⟨i, h7, h8⟩) | h6)
          · exact Or.inl h6
          · exact Or.inr ⟨i, by omega, h8⟩
          · exact Or.inr ⟨n, by omega, h6⟩
        · rintro (h6 | ⟨i, h7, h8⟩)
          · exact Or.inl (Or.inl h6)
          · by_cases hin : i = n
            · subst hin
              exact Or.inr h8
            · exact Or.inl (Or.inr ⟨i, by omega, h8⟩)) (fun t h6 h7 he => by
        by_cases htn : t = n
        · subst htn
          have : Nat.testBit k (itG g t s) = true := by
            rw [h4 _ hy]
            exact Or.inr ⟨0, by omega, by rw [he]; rfl⟩
          rw [hb] at this
          cases this
        · exact h5 t h6 (by omega) he)
      refine ⟨n', k', r1, r2, r3, r4, r5, r6, fun Q hQ => w248_74 ?_⟩
      rw [if_neg (by rw [hb]; decide)] at b
      refine ⟨fun z => absurd b z, fun _ => ?_⟩
      have e1 : 549 + iN (itG g n s) = iN (549 + itG g n s) := by simp only [iN_lit, iN_add]
      rw [e1, ix_of (by omega), (hg _ hy).2, (pc_i k h3 _ hy).1, iN_step]
      exact ⟨inb_of (by omega) (by decide), r7 Q hQ⟩
theorem c248_out {X : Cx} {d : Nat} {M : Mem} {g : Nat → Nat} {x1 : Int32} (hg : ∀ j, j < 8 → g j < 8 ∧ M.1 101 0 (549 + j) = iN (g j)) (hi : ∀ i j, i < 8 → j < 8 → g i = g j → i = j) {Q : Option Vl → Mem → Prop} (hQ : Q (some (vI (if x1 = 0 then iN (pB g 8).1 else iN (pB g 8).2))) M) : ∀ (t s k : Nat), s + t = 8 → SeenI g k s → (pB g s).2 ≤ s ∧ (pB g s).1 ≤ 8 * s → V X (d + 2) 248 60 [some (vR 100 0), some (vI x1), none, some (vI (iN k)), some (vI (iN (pB g s).1)), some (vI (iN (pB g s).2)), some (vI (iN s)), none, none] [] M Q
  | 0, s, k, h, hS, hb => by
    have : s = 8 := by omega
    subst this
    refine w248_60 ⟨fun _ => ⟨fun z => ?_, fun z => ?_⟩, fun z => absurd (by decide) z⟩
    · rw [if_neg z] at hQ
      exact hQ
    · rw [if_pos z] at hQ
      exact hQ
  | t + 1, s, k, h, hS, hb => by
    have hgl : ∀ j, j < 8 → g j < 8 := fun j hj => (hg j hj).1
    obtain ⟨q1, q2, q3, q4⟩ := hS
    refine w248_60 ⟨fun z => absurd ((iN_le (a := 8) (by decide) (by omega)).mp z) (by omega), fun _ => ?_⟩
    cases hbit : Nat.testBit k s with
    | true =>
      obtain ⟨j0, hj0⟩ := q3 s (by omega) hbit
      obtain ⟨j, hj, hmin⟩ := least (P := fun j => itG g j s < s) j0 hj0
      have hj1 : 1 ≤ j := by
        rcases j with _ | j
        · exact absurd hj (Nat.lt_irrefl s)
        · omega
      have r0 : rC g s 8 (g s) 0 = 0 := rC_no hj hmin 8 0 hj1
      have e : pB g (s + 1) = pB g s := if_pos r0
      have b := (pc_i k q1 s (by omega)).2
      rw [if_pos hbit] at b
      refine w248_74 ⟨fun _ => ⟨_, _, c153, ?_⟩, fun z => by rw [b] at z; exact absurd z (by decide)⟩
      have gz : gtr 0 (0 - 1) = 0 := by decide
      rw [gz, iN_step, Int32.add_zero, Int32.add_zero]
      have hrec := c248_out (X := X) (d := d) (x1 := x1) hg hi hQ t (s + 1) k (by omega) ⟨q1, fun y h1 h2 => by
        by_cases hys : y = s
        · rw [hys]; exact hbit
        · exact q2 y (by omega) h2, fun y h1 h2 => by
        obtain ⟨j, hj⟩ := q3 y h1 h2
        exact ⟨j, by omega⟩, q4⟩ (by rw [e]; omega)
      rw [e] at hrec
      exact ⟨fun _ => hrec, fun z => absurd (by decide) z⟩
    | false =>
      obtain ⟨n, k', r1, r2, r3, r4, r5, r6, r7⟩ := c248_in (X := X) (d := d) (M := M) (x1 := x1) (x4 := iN (pB g s).1) (x5 := iN (pB g s).2) (x6 := iN s) hg hi (by omega) hbit q4 q1 (8 - pcB k) 0 k (by have := (pc_t k q1).1; omega) (by omega) q1 (fun z hz => ⟨fun h => Or.inl h, fun h => h.elim id (fun ⟨i, h1, _⟩ => absurd h1 (by omega))⟩) (fun t h1 h2 => absurd h2 (by omega))
      have out : ∀ i, Nat.testBit k (itG g i s) = false := by
        intro i
        induction i with
        | zero => exact hbit
        | succ i ih =>
          cases hb : Nat.testBit k (itG g (i + 1) s) with
          | false => rfl
          | true =>
            have := q4 _ (itG_lt hgl (by omega) i) hb
            rw [ih] at this
            cases this
      have hge : ∀ t, s ≤ itG g t s := fun t => by
        by_cases h1 : itG g t s < s
        · have := q2 _ h1 (by omega)
          rw [out t] at this
          cases this
        · omega
      have rc : rC g s 8 (g s) 0 = n - 1 := rC_yes r4 r5 hge r2 8 0 (by omega) (by omega)
      have hrec := c248_out (X := X) (d := d) (x1 := x1) hg hi hQ t (s + 1) k' (by omega) ⟨r3, fun y h1 h2 => by
        rw [r6 y h2]
        by_cases hys : y = s
        · exact Or.inr ⟨0, by omega, hys⟩
        · exact Or.inl (q2 y (by omega) h2), fun y h1 h2 => by
        rcases (r6 y h1).mp h2 with h3 | ⟨i, h3, h4⟩
        · obtain ⟨j, hj⟩ := q3 y h1 h3
          exact ⟨j, by omega⟩
        · refine ⟨n - i, ?_⟩
          rw [h4, ← itG_add, show n - i + i = n by omega, r4]
          omega, fun y h1 h2 => by
        rw [r6 y h1]
        rcases (r6 _ (hgl y h1)).mp h2 with h3 | ⟨i, h3, h4⟩
        · exact Or.inl (q4 y h1 h3)
        · rcases i with _ | i
          · refine Or.inr ⟨n - 1, by omega, hi _ _ h1 (itG_lt hgl (by omega) _) ?_⟩
            rw [h4]
            show s = itG g (n - 1 + 1) s
            rw [show n - 1 + 1 = n by omega, r4]
          · exact Or.inr ⟨i, by omega, hi _ _ h1 (itG_lt hgl (by omega) _) h4⟩⟩ (by
        show (if rC g s 8 (g s) 0 = 0 then pB g s else ((pB g s).1 + rC g s 8 (g s) 0, (pB g s).2 + 1)).2 ≤ s + 1 ∧ (if rC g s 8 (g s) 0 = 0 then pB g s else ((pB g s).1 + rC g s 8 (g s) 0, (pB g s).2 + 1)).1 ≤ 8 * (s + 1)
        rw [rc]
        split
        · omega
        · exact ⟨Nat.add_le_add hb.1 (Nat.le_refl 1), by show (pB g s).1 + (n - 1) ≤ 8 * (s + 1); omega⟩)
      refine r7 Q ?_
      rw [iN_add, iN_step]
      by_cases hn1 : n ≤ 1
      · have e : pB g (s + 1) = pB g s := if_pos (by rw [rc]; omega)
        rw [e] at hrec
        rw [if_pos hn1, Int32.add_zero, show (pB g s).1 + (n - 1) = (pB g s).1 by omega]
        exact hrec
      · have e : pB g (s + 1) = ((pB g s).1 + (n - 1), (pB g s).2 + 1) := by
          rw [← rc]
          exact if_neg (by rw [rc]; omega)
        rw [e] at hrec
        rw [if_neg hn1, iN_step]
        exact hrec
theorem c75 {X : Cx} {d : Nat} {M : Mem} {a s : Nat} {g : Nat → Nat} (hg : ∀ j, j < 8 → g j < 8 ∧ M.1 72 a j = iN (g j)) (hs : s < 8) : CC X (d + 1) 75 [vR 70 a, vI (iN s)] M (some (vI (iN (rC g s 8 (g s) 0)))) M := by
  refine e75 (w75_0 ⟨inb_of hs (by decide), ?_⟩)
  rw [ix_of (by omega), (hg s hs).2]
  have run : ∀ (f i y : Nat), i + f = 8 → y < 8 → V X (d + 1) 75 12 [some (vR 70 a), some (vI (iN s)), some (vI (iN i)), some (vI (iN y)), some (vI (iN i))] [] M (fun r' M' => r' = some (vI (iN (rC g s f y i))) ∧ M' = M) := by
    intro f
    induction f with
    | zero =>
      intro i y h1 h2
      have : i = 8 := by omega
      subst this
      refine w75_12 ⟨fun _ => ⟨fun z => ?_, fun z => ?_⟩, fun z => absurd (by decide) z⟩
      · have e : rC g s 0 y 8 = 0 := if_neg (fun h => z (by rw [h]))
        rw [e]
        exact ⟨rfl, rfl⟩
      · have e : rC g s 0 y 8 = 8 := if_pos ((iN_inj (by omega) (by omega)).mp z)
        rw [e]
        exact ⟨rfl, rfl⟩
    | succ f ih =>
      intro i y h1 h2
      have es : rC g s (f + 1) y i = if s < y then rC g s f (g y) (i + 1) else if y = s then i else 0 := rfl
      rw [es]
      refine w75_12 ⟨fun z => absurd ((iN_le (a := 8) (by decide) (by omega)).mp z) (by omega), fun _ => ⟨fun z => ?_, fun z => ⟨fun z2 => absurd ((iN_le (a := 8) (by decide) (by omega)).mp z2) (by omega), fun _ => ⟨inb_of h2 (by decide), ?_⟩⟩⟩⟩
      · have z := (iN_le (by omega) (by omega)).mp z
        rw [if_neg (by omega)]
        exact ⟨fun z2 => ⟨by rw [if_neg (fun h => z2 (by rw [h]))]; rfl, rfl⟩, fun z2 => ⟨by rw [if_pos ((iN_inj (by omega) (by omega)).mp z2)], rfl⟩⟩
      · have z : s < y := Nat.not_le.mp (fun h => z ((iN_le (by omega) (by omega)).mpr h))
        rw [if_pos z, ix_of (by omega), (hg y h2).2, iN_step]
        exact ih (i + 1) (g y) (by omega) (hg y h2).1
  exact run 8 0 (g s) (by omega) (hg s hs).1
theorem rC_le {g : Nat → Nat} {s : Nat} : ∀ (f y o : Nat), rC g s f y o ≤ o + f
  | 0, y, o => by
    unfold rC
    split <;> omega
  | f + 1, y, o => by
    unfold rC
    split
    · have := rC_le (g := g) (s := s) f (g y) (o + 1)
      omega
    · split <;> omega
theorem pB_le {g : Nat → Nat} : ∀ s : Nat, (pB g s).1 ≤ 8 * s ∧ (pB g s).2 ≤ s
  | 0 => ⟨Nat.le_refl _, Nat.le_refl _⟩
  | s + 1 => by
    have h := pB_le (g := g) s
    have h2 := rC_le (g := g) (s := s) 8 (g s) 0
    unfold pB
    split
    · omega
    · exact ⟨by show (pB g s).1 + rC g s 8 (g s) 0 ≤ 8 * (s + 1); omega, by show (pB g s).2 + 1 ≤ s + 1; omega⟩
def putS (g : Nat → Nat) (x : Int32) : Int32 := if orG g 8 = 255 then (if x = 0 then iN (pB g 8).2 else iN (pB g 8).1) else -1
theorem c74 {X : Cx} {d : Nat} {M : Mem} {a : Nat} {g : Nat → Nat} {x : Int32} (hg : ∀ j, j < 8 → g j < 8 ∧ M.1 72 a j = iN (g j)) : CC X (d + 2) 74 [vR 70 a, vI x] M (some (vI (putS g x))) M := by
  have hgl : ∀ j, j < 8 → g j < 8 := fun j hj => (hg j hj).1
  refine e74 (w74_0 ?_)
  refine for_up (P := fun j => V X (d + 2) 74 4 [some (vR 70 a), some (vI x), some (vI (iN (orG g j))), some (vI (iN j)), none, none, none] [] M _) (n := 8) (fun j hj hP => ?_) ?_
  · refine w74_4 ⟨fun z => absurd ((iN_le (a := 8) (by decide) (by omega)).mp z) (by omega), fun _ => ⟨inb_of hj (by decide), ?_⟩⟩
    rw [ix_of (by omega), (hg j hj).2, (pc_i _ (orG_lt hgl j (by omega)).1 _ (hg j hj).1).1, iN_step]
    exact hP
  · have hlt := (orG_lt hgl 8 (by omega)).1
    unfold putS
    refine w74_4 ⟨fun _ => ⟨fun z => ?_, fun z => ?_⟩, fun z => absurd (by decide) z⟩
    · have z : orG g 8 = 255 := (iN_inj (b := 255) (by omega) (by decide)).mp z
      rw [if_pos z]
      refine for_up (P := fun j => V X (d + 2) 74 44 [some (vR 70 a), some (vI x), none, some (vI (iN (pB g j).1)), some (vI (iN (pB g j).2)), some (vI (iN j)), none] [] M _) (n := 8) (fun j hj hP => ?_) ?_
      · refine w74_44 ⟨fun z => absurd ((iN_le (a := 8) (by decide) (by omega)).mp z) (by omega), fun _ => ⟨_, _, c75 hg hj, fun z => ?_, fun z => ?_⟩⟩
        · have hl := rC_le (g := g) (s := j) 8 (g j) 0
          have z := (iN_le (b := 0) (by omega) (by decide)).mp z
          have e : pB g (j + 1) = pB g j := if_pos (by omega)
          rw [e] at hP
          rw [iN_step]
          exact hP
        · have hl := rC_le (g := g) (s := j) 8 (g j) 0
          have z : ¬ rC g j 8 (g j) 0 = 0 := fun h => z (by rw [h]; decide)
          have e : pB g (j + 1) = ((pB g j).1 + rC g j 8 (g j) 0, (pB g j).2 + 1) := if_neg z
          rw [e] at hP
          rw [iN_add, iN_step, iN_step]
          exact hP
      · refine w74_44 ⟨fun _ => ⟨fun z => ?_, fun z => ?_⟩, fun z => absurd (by decide) z⟩
        · rw [if_pos z]
          exact ⟨rfl, rfl⟩
        · rw [if_neg z]
          exact ⟨rfl, rfl⟩
    · rw [if_neg (fun h => z (by rw [h]; rfl))]
      exact ⟨rfl, rfl⟩
theorem op127 {X : Cx} {d : Nat} {M : Mem} {q : Int32} (h : GarR M 0 (M.1 101 0)) : ∃ (x : Int32), CC X (d + 3) 127 [vR 2 0, vI q] M (some (vI x)) M ∧ CC X (d + 3) 248 [vR 100 0, vI q] M (some (vI x)) M := by
  have hex : ∃ g : Nat → Nat, ∀ j, j < 8 → g j < 8 ∧ M.1 72 0 j = iN (g j) ∧ M.1 101 0 (549 + j) = iN (g j) :=
    ⟨fun j => ix (M.1 72 0 j), fun j hj => by
      obtain ⟨n, h1, h2, h3⟩ := h j hj
      show ix (M.1 72 0 j) < 8 ∧ M.1 72 0 j = iN (ix (M.1 72 0 j)) ∧ M.1 101 0 (549 + j) = iN (ix (M.1 72 0 j))
      rw [h3, h2, ix_of (by omega)]
      exact ⟨h1, rfl, rfl⟩⟩
  obtain ⟨g, hg⟩ := hex
  have hgl : ∀ j, j < 8 → g j < 8 := fun j hj => (hg j hj).1
  have hgC : ∀ j, j < 8 → g j < 8 ∧ M.1 72 0 j = iN (g j) := fun j hj => ⟨(hg j hj).1, (hg j hj).2.1⟩
  have hgM : ∀ j, j < 8 → g j < 8 ∧ M.1 101 0 (549 + j) = iN (g j) := fun j hj => ⟨(hg j hj).1, (hg j hj).2.2⟩
  have hlt := (orG_lt hgl 8 (by omega)).1
  have cc := c146 (X := X) (d := d + 1) (M := M) (v := q) (lo := 0) (hi := 1)
  have cr := c151 (X := X) (d := d + 1) (M := M) (v := q) (lo := 0) (hi := 1)
  have ref : ∀ Q : Option Vl → Mem → Prop, (∃ (r1 : Int32) (M1 : Mem), CC X (d + 2) 151 [vI q, vI 0, vI 1] M (some (vI r1)) M1 ∧ (r1 = 0 → Q (some (vI (-1))) M1) ∧ (¬ r1 = 0 → (iN (orG g 8) = 255 → V X (d + 3) 248 60 [some (vR 100 0), some (vI q), none, some (vI 0), some (vI 0), some (vI 0), some (vI 0), none, none] [] M1 Q) ∧ (¬ iN (orG g 8) = 255 → Q (some (vI (-1))) M1))) → V X (d + 3) 248 0 [some (vR 100 0), some (vI q), none, none, none, none, none, none, none] [] M Q := by
    intro Q hQ
    refine w248_0 ?_
    refine for_up (P := fun j => V X (d + 3) 248 4 [some (vR 100 0), some (vI q), some (vI (iN (orG g j))), some (vI (iN j)), none, none, none, none, none] [] M Q) (n := 8) (fun j hj hP => ?_) ?_
    · refine w248_4 ⟨fun z => absurd ((iN_le (a := 8) (by decide) (by omega)).mp z) (by omega), fun _ => ?_⟩
      have e1 : 549 + iN j = iN (549 + j) := by simp only [iN_lit, iN_add]
      rw [e1, ix_of (by omega), (hgM j hj).2, (pc_i _ (orG_lt hgl j (by omega)).1 _ (hgl j hj)).1, iN_step]
      exact ⟨inb_of (by omega) (by decide), hP⟩
    · exact w248_4 ⟨fun _ => hQ, fun z => absurd (by decide) z⟩
  by_cases hq : inR q 0 1 = true
  · rw [hq] at cc cr
    have q01 : q = 0 ∨ q = 1 := by
      obtain ⟨t, rfl, ht⟩ := inR_iN (hi := 1) (by decide) hq
      rcases (show t = 0 ∨ t = 1 by omega) with rfl | rfl
      · exact Or.inl rfl
      · exact Or.inr rfl
    have ck := c74 (X := X) (d := d) (M := M) (a := 0) (x := if q = 0 then 1 else 0) hgC
    refine ⟨putS g (if q = 0 then 1 else 0), e127 (w127_0 ⟨_, _, cc, ?_⟩), e248 (ref _ ⟨_, _, cr, ?_⟩)⟩
    · rcases q01 with rfl | rfl
      · simp only [forall_eq, true_implies, false_implies, not_true_eq_false, not_false_eq_true, and_true, true_and, and_self, isB0, isB1, bI_t0, bI_f0, i10_, i20_, i01_, i02_, i12_, i21_]
        exact ⟨_, _, ck, rfl, rfl⟩
      · simp only [forall_eq, true_implies, false_implies, not_true_eq_false, not_false_eq_true, and_true, true_and, and_self, isB0, isB1, bI_t0, bI_f0, i10_, i20_, i01_, i02_, i12_, i21_]
        exact ⟨_, _, ck, rfl, rfl⟩
    · simp only [forall_eq, true_implies, false_implies, not_true_eq_false, not_false_eq_true, and_true, true_and, and_self, isB0, isB1, bI_t0, bI_f0, i10_, i20_, i01_, i02_, i12_, i21_]
      refine ⟨fun z => ?_, fun z => ?_⟩
      · have z : orG g 8 = 255 := (iN_inj (b := 255) (by omega) (by decide)).mp z
        refine c248_out (X := X) (d := d + 1) (x1 := q) hgM (orG_inj hgl z) ⟨?_, rfl⟩ 8 0 0 (by decide) ⟨by decide, fun y h1 _ => absurd h1 (by omega), fun y h1 h2 => absurd h2 (by rw [Nat.zero_testBit]; decide), fun y h1 h2 => absurd h2 (by rw [Nat.zero_testBit]; decide)⟩ ⟨Nat.le_refl _, Nat.le_refl _⟩
        unfold putS
        rw [if_pos z]
        rcases q01 with rfl | rfl
        · rfl
        · rfl
      · unfold putS
        rw [if_neg (fun h => z (by rw [h]; rfl))]
  · have hq : inR q 0 1 = false := by simpa using hq
    rw [hq] at cc cr
    refine ⟨-1, e127 (w127_0 ⟨_, _, cc, ?_⟩), e248 (ref _ ⟨_, _, cr, ?_⟩)⟩
    · simp only [forall_eq, true_implies, false_implies, not_true_eq_false, not_false_eq_true, and_true, true_and, and_self, isB0, isB1, bI_t0, bI_f0, i10_, i20_, i01_, i02_, i12_, i21_]
    · simp only [forall_eq, true_implies, false_implies, not_true_eq_false, not_false_eq_true, and_true, true_and, and_self, isB0, isB1, bI_t0, bI_f0, i10_, i20_, i01_, i02_, i12_, i21_]
