/-! what is looked at: fieldOf, game, book, look -/
def LandI (M : Mem) : Prop := TC M 0 = TM M ∧ cntT (TM M) ∧ ∃ k : Nat, k < 2 ^ ix (TM M 20 6) ∧ M.1 101 0 6 = iN k
theorem land_c {M : Mem} (h : TC M 0 = TM M) {c j : Nat} (hk : okC c j = true) : M.1 c 0 j = TM M c j := by rw [← TC_rd hk, h]
theorem land_n {M : Mem} (h : TC M 0 = TM M) (hc : cntT (TM M)) : (∃ n : Nat, n ≤ 10 ∧ M.1 20 0 5 = iN n ∧ M.1 101 0 229 = iN n) ∧ (∃ n : Nat, n ≤ 8 ∧ M.1 20 0 6 = iN n ∧ M.1 101 0 230 = iN n) ∧ ∃ n : Nat, n ≤ 12 ∧ M.1 20 0 7 = iN n ∧ M.1 101 0 231 = iN n := by
  obtain ⟨⟨a, a1, a2⟩, ⟨b, b1, b2⟩, ⟨c, c1, c2⟩⟩ := hc
  exact ⟨⟨a, a1, (land_c h (by decide)).trans a2, (TW_c (c := 20) (j := 5) (by decide)).trans a2⟩, ⟨b, b1, (land_c h (by decide)).trans b2, (TW_c (c := 20) (j := 6) (by decide)).trans b2⟩, ⟨c, c1, (land_c h (by decide)).trans c2, (TW_c (c := 20) (j := 7) (by decide)).trans c2⟩⟩
theorem has_lt {v : Int32} {n k : Nat} (hn : n ≤ k) (hk : k < 2147483648) (h : has v (iN n) (iN k) = true) : ∃ j : Nat, v = iN j ∧ j < n := by
  simp only [has, Bool.and_eq_true, decide_eq_true_eq] at h
  exact iN_of_lt (by omega) h.1.1 h.1.2
/-- fieldOf, both -/
theorem op112 {X : Cx} {d : Nat} {M : Mem} {v q : Int32} (h : LandI M) : ∃ (x : Int32), CC X (d + 4) 112 [vR 2 0, vI v, vI q] M (some (vI x)) M ∧ CC X (d + 4) 230 [vR 100 0, vI v, vI q] M (some (vI x)) M := by
  obtain ⟨hT, hc, -⟩ := h
  obtain ⟨⟨n, hn, n1, n2⟩, -, -⟩ := land_n hT hc
  have cc := c55 (X := X) (d := d + 2) (M := M) (a := 0) (v := v)
  rw [n1] at cc
  have cm := c155 (X := X) (d := d + 1) (v := v) n2 hn
  by_cases hv : has v (iN n) 10 = true
  · obtain ⟨f, rfl, hf⟩ := has_lt (k := 10) hn (by decide) hv
    have i10 : inb (iN f) 10 := inb_of (by omega) (by decide)
    have e7 : 7 + iN f = iN (7 + f) := by simp only [iN_lit, iN_add]
    have e241 : 241 + iN f = iN (241 + f) := by simp only [iN_lit, iN_add]
    have r21 : M.1 21 0 (ix (iN f)) = M.1 101 0 (ix (241 + iN f)) := by
      rw [ix_of (by omega), e241, ix_of (by omega), land_c hT (by simp [okC]; omega)]
      exact (TW_c (by simp [okC]; omega)).symm
    have r22 : M.1 22 0 (ix (iN f)) = M.1 101 0 (ix (7 + iN f)) := by
      rw [ix_of (by omega), e7, ix_of (by omega), land_c hT (by simp [okC]; omega)]
      exact (TW_c (by simp [okC]; omega)).symm
    have b1 : inb (241 + iN f) 2129 := by rw [e241]; exact inb_of (by omega) (by decide)
    have b2 : inb (7 + iN f) 2129 := by rw [e7]; exact inb_of (by omega) (by decide)
    have hol := c66 (X := X) (d := d + 1) (M := M) (a := 0) (f := f) (by rw [hT]; exact hc) (by rw [n1]; exact (iN_lt (by omega) (by omega)).mpr hf) (by omega)
    rw [hT] at hol
    have hom := c229 (X := X) (d := d + 2) (M := M) (f := f) hc (by omega)
    by_cases q0 : q = 0
    · subst q0
      exact ⟨_, e112 (w112_0 ⟨_, _, cc, bI_if1 (fun _ => ⟨fun _ => ⟨i10, rfl, rfl⟩, fun z => absurd rfl z⟩) (fun z => by rw [hv] at z; cases z)⟩), e230 (w230_0 ⟨_, _, cm, bI_if (fun z => by rw [hv] at z; cases z) (fun _ => ⟨_, _, c151, bI_if1 (fun _ => ⟨fun z => absurd rfl z, fun _ => ⟨b1, by rw [r21], rfl⟩⟩) (fun z => by cases z)⟩)⟩)⟩
    · by_cases q1 : q = 1
      · subst q1
        exact ⟨_, e112 (w112_0 ⟨_, _, cc, bI_if1 (fun _ => ⟨fun z => absurd z (by decide), fun _ => ⟨fun _ => ⟨i10, rfl, rfl⟩, fun z => absurd rfl z⟩⟩) (fun z => by rw [hv] at z; cases z)⟩), e230 (w230_0 ⟨_, _, cm, bI_if (fun z => by rw [hv] at z; cases z) (fun _ => ⟨_, _, c151, bI_if1 (fun _ => ⟨fun _ => ⟨fun z => absurd rfl z, fun _ => ⟨b2, by rw [r22], rfl⟩⟩, fun z => absurd z (by decide)⟩) (fun z => by cases z)⟩)⟩)⟩
      · by_cases q2 : q = 2
        · subst q2
          exact ⟨_, e112 (w112_0 ⟨_, _, cc, bI_if1 (fun _ => ⟨fun z => absurd z (by decide), fun _ => ⟨fun z => absurd z (by decide), fun _ => ⟨fun _ => ⟨_, _, hol, rfl, rfl⟩, fun z => absurd rfl z⟩⟩⟩) (fun z => by rw [hv] at z; cases z)⟩), e230 (w230_0 ⟨_, _, cm, bI_if (fun z => by rw [hv] at z; cases z) (fun _ => ⟨_, _, c151, bI_if1 (fun _ => ⟨fun _ => ⟨fun _ => ⟨_, _, hom, rfl, rfl⟩, fun z => absurd z (by decide)⟩, fun z => absurd z (by decide)⟩) (fun z => by cases z)⟩)⟩)⟩
        · have hq : inR q 0 2 = false := by
            cases hh : inR q 0 2 with
            | false => rfl
            | true =>
              obtain ⟨k, rfl, hk⟩ := inR_iN (hi := 2) (by decide) hh
              rcases (show k = 0 ∨ k = 1 ∨ k = 2 by omega) with rfl | rfl | rfl
              · exact absurd rfl q0
              · exact absurd rfl q1
              · exact absurd rfl q2
          exact ⟨-2, e112 (w112_0 ⟨_, _, cc, bI_if1 (fun _ => ⟨fun z => absurd z q0, fun _ => ⟨fun z => absurd z q1, fun _ => ⟨fun z => absurd z q2, fun _ => ⟨rfl, rfl⟩⟩⟩⟩) (fun z => by rw [hv] at z; cases z)⟩), e230 (w230_0 ⟨_, _, cm, bI_if (fun z => by rw [hv] at z; cases z) (fun _ => ⟨_, _, c151, bI_if1 (fun z => by rw [hq] at z; cases z) (fun _ => ⟨rfl, rfl⟩)⟩)⟩)⟩
  · have hv : has v (iN n) 10 = false := by simpa using hv
    exact ⟨-2, e112 (w112_0 ⟨_, _, cc, bI_if1 (fun z => by rw [hv] at z; cases z) (fun _ => ⟨rfl, rfl⟩)⟩), e230 (w230_0 ⟨_, _, cm, bI_if (fun _ => ⟨rfl, rfl⟩) (fun z => by rw [hv] at z; cases z)⟩)⟩
/-! the book -/
def BookR (M : Mem) (a : Nat) (W : Nat → Int32) (n : Nat) : Prop := n ≤ 150 ∧ M.1 30 a 0 = iN n ∧ W 5 = iN n ∧ ∀ j, j < 4 * n → M.1 31 a j = W (645 + j)
/-- book, both -/
theorem op115 {X : Cx} {d : Nat} {M : Mem} {v q : Int32} {n : Nat} (h : BookR M 0 (M.1 101 0) n) : ∃ (x : Int32), CC X (d + 2) 115 [vR 2 0, vI v, vI q] M (some (vI x)) M ∧ CC X (d + 2) 235 [vR 100 0, vI v, vI q] M (some (vI x)) M := by
  obtain ⟨hn, h1, h2, h3⟩ := h
  have i5 : inb 5 2129 := inb_l (by decide) (by decide)
  have x5 : ix 5 = 5 := ix_l (by decide)
  have cc := c146 (X := X) (d := d) (M := M) (v := v) (lo := 0) (hi := M.1 30 0 0 - 1)
  have cm := c151 (X := X) (d := d) (M := M) (v := v) (lo := 0) (hi := M.1 101 0 (ix 5) - 1)
  rw [x5] at cm
  have hb1 : inR v 0 (M.1 30 0 0 - 1) = has v (iN n) 150 := by rw [h1]; exact inR_has (k := 150) hn (by decide)
  have hb2 : inR v 0 (M.1 101 0 5 - 1) = has v (iN n) 150 := by rw [h2]; exact inR_has (k := 150) hn (by decide)
  rw [hb1] at cc
  rw [hb2] at cm
  by_cases hv : has v (iN n) 150 = true
  · by_cases hq : inR q 0 3 = true
    · obtain ⟨i, rfl, hi⟩ := has_lt (k := 150) hn (by decide) hv
      obtain ⟨t, rfl, ht⟩ := inR_iN (hi := 3) (by decide) hq
      have e1 : iN i * 4 + iN t = iN (4 * i + t) := by
        simp only [iN_lit, iN_mul, iN_add]
        rw [show i * 4 + t = 4 * i + t by omega]
      have e2 : 645 + 4 * iN i + iN t = iN (645 + (4 * i + t)) := by
        simp only [iN_lit, iN_mul, iN_add]
        rw [show 645 + 4 * i + t = 645 + (4 * i + t) by omega]
      refine ⟨M.1 31 0 (4 * i + t), e115 (w115_0 ⟨_, _, cc, bI_if (fun z => by rw [hv] at z; cases z) (fun _ => ⟨_, _, c146, bI_if1 (fun _ => ⟨?_, ?_, rfl⟩) (fun z => by rw [hq] at z; cases z)⟩)⟩), e235 (w235_0 ⟨i5, _, _, by rw [x5]; exact cm, bI_if (fun z => by rw [hv] at z; cases z) (fun _ => ⟨_, _, c151, bI_if (fun z => by rw [hq] at z; cases z) (fun _ => ⟨?_, ?_, rfl⟩)⟩)⟩)⟩
      · rw [e1]; exact inb_of (by omega) (by decide)
      · rw [e1, ix_of (by omega)]
      · rw [e2]; exact inb_of (by omega) (by decide)
      · rw [e2, ix_of (by omega), h3 _ (by omega)]
    · have hq : inR q 0 3 = false := by simpa using hq
      exact ⟨-1, e115 (w115_0 ⟨_, _, cc, bI_if (fun z => by rw [hv] at z; cases z) (fun _ => ⟨_, _, c146, bI_if1 (fun z => by rw [hq] at z; cases z) (fun _ => ⟨rfl, rfl⟩)⟩)⟩), e235 (w235_0 ⟨i5, _, _, by rw [x5]; exact cm, bI_if (fun z => by rw [hv] at z; cases z) (fun _ => ⟨_, _, c151, bI_if (fun _ => ⟨rfl, rfl⟩) (fun z => by rw [hq] at z; cases z)⟩)⟩)⟩
  · have hv : has v (iN n) 150 = false := by simpa using hv
    exact ⟨-1, e115 (w115_0 ⟨_, _, cc, bI_if (fun _ => ⟨rfl, rfl⟩) (fun z => by rw [hv] at z; cases z)⟩), e235 (w235_0 ⟨i5, _, _, by rw [x5]; exact cm, bI_if (fun _ => ⟨rfl, rfl⟩) (fun z => by rw [hv] at z; cases z)⟩)⟩
/-! the game -/
def gAll (T : Ld) : Nat → Int32
  | 0 => 0
  | e + 1 => gAll T e ^^^ (acres T e % 4)
/-- takes of k on hatfuls: t tries are left -/
def gTry (q all x e : Int32) : Nat → Option Int32
  | 0 => none
  | t + 1 => if x < iN (3 - t) then none else if (all ^^^ (x % 4)) = ((x - iN (3 - t)) % 4) then some (if q = 0 then e else iN (3 - t)) else gTry q all x e t
def gDoor (T : Ld) (q all : Int32) (n : Nat) : Nat → Int32
  | 0 => -1
  | t + 1 => match gTry q all (acres T (n - (t + 1))) (iN (n - (t + 1))) 3 with
    | some r => r
    | none => gDoor T q all n t
theorem gTry_0 (q x e : Int32) : ∀ t : Nat, t ≤ 3 → gTry q 0 x e t = none := by
  have key : ∀ k : Int32, k = 1 ∨ k = 2 ∨ k = 3 → ¬ x < k → ¬ (0 ^^^ (x % 4)) = ((x - k) % 4) := by
    intro k hk hx
    rw [Int32.zero_xor]
    have h0 : 0 ≤ x := by rcases hk with rfl | rfl | rfl <;> grind
    obtain ⟨n, rfl, hn, -⟩ := iN_of h0
    have m4 : iN n % 4 = iN (n % 4) := iN_mod (b := 4) hn (by decide) (by decide)
    rcases hk with rfl | rfl | rfl
    · have hl : 1 ≤ n := by
        have := Int32.not_lt.mp hx
        exact (iN_le (a := 1) (by decide) hn).mp this
      have s : iN n - 1 = iN (n - 1) := pk_sub (a := n) (b := 1) hl
      rw [s, m4, show iN (n - 1) % 4 = iN ((n - 1) % 4) from iN_mod (b := 4) (by omega) (by decide) (by decide), iN_inj (by omega) (by omega)]
      omega
    · have hl : 2 ≤ n := by
        have := Int32.not_lt.mp hx
        exact (iN_le (a := 2) (by decide) hn).mp this
      have s : iN n - 2 = iN (n - 2) := pk_sub (a := n) (b := 2) hl
      rw [s, m4, show iN (n - 2) % 4 = iN ((n - 2) % 4) from iN_mod (b := 4) (by omega) (by decide) (by decide), iN_inj (by omega) (by omega)]
      omega
    · have hl : 3 ≤ n := by
        have := Int32.not_lt.mp hx
        exact (iN_le (a := 3) (by decide) hn).mp this
      have s : iN n - 3 = iN (n - 3) := pk_sub (a := n) (b := 3) hl
      rw [s, m4, show iN (n - 3) % 4 = iN ((n - 3) % 4) from iN_mod (b := 4) (by omega) (by decide) (by decide), iN_inj (by omega) (by omega)]
      omega
  intro t
  induction t with
  | zero => intro _; rfl
  | succ t ih =>
    intro ht
    show (if x < iN (3 - t) then none else if (0 ^^^ (x % 4)) = ((x - iN (3 - t)) % 4) then some (if q = 0 then e else iN (3 - t)) else gTry q 0 x e t) = none
    by_cases h1 : x < iN (3 - t)
    · rw [if_pos h1]
    · rw [if_neg h1, if_neg (key _ (by rcases (show t = 0 ∨ t = 1 ∨ t = 2 by omega) with rfl | rfl | rfl; exact Or.inr (Or.inr rfl); exact Or.inr (Or.inl rfl); exact Or.inl rfl) h1)]
      exact ih (by omega)
theorem gDoor_0 (T : Ld) (q : Int32) (n : Nat) : ∀ t : Nat, gDoor T q 0 n t = -1
  | 0 => rfl
  | t + 1 => by
    show (match gTry q 0 (acres T (n - (t + 1))) (iN (n - (t + 1))) 3 with | some r => r | none => gDoor T q 0 n t) = -1
    rw [gTry_0 _ _ _ 3 (Nat.le_refl 3)]
    exact gDoor_0 T q n t
