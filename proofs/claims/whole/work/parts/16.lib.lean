/-! words for contracts -/
def bI (b : Bool) : Int32 := if b then 1 else 0
theorem isB_bI (b : Bool) : isB (bI b) := by cases b; exact Or.inl rfl; exact Or.inr rfl
theorem isB0 : isB 0 := Or.inl rfl
theorem isB1 : isB 1 := Or.inr rfl
theorem bI_ne (b : Bool) : (¬ bI b = 0) ↔ b = true := by cases b <;> simp [bI]
theorem bI_eq (b : Bool) : (bI b = 0) ↔ b = false := by cases b <;> simp [bI]
theorem bI_if {b : Bool} {A B : Prop} (h0 : b = false → A) (h1 : b = true → B) : (bI b = 0 → A) ∧ (¬ bI b = 0 → B) := ⟨fun z => h0 ((bI_eq b).mp z), fun z => h1 ((bI_ne b).mp z)⟩
theorem bI_if1 {b : Bool} {A B : Prop} (h1 : b = true → A) (h0 : b = false → B) : (¬ bI b = 0 → A) ∧ (bI b = 0 → B) := ⟨fun z => h1 ((bI_ne b).mp z), fun z => h0 ((bI_eq b).mp z)⟩
def inR (v lo hi : Int32) : Bool := decide (lo ≤ v) && decide (v ≤ hi)
def has (v n k : Int32) : Bool := decide (0 ≤ v) && decide (v < n) && decide (v < k)
/-! numbers -/
abbrev iN (n : Nat) : Int32 := Int32.ofNat n
theorem iN_lit (n : Nat) : (OfNat.ofNat n : Int32) = iN n := rfl
theorem ix_of {n : Nat} (h : n < 2147483648) : ix (iN n) = n := Int32.toNatClampNeg_ofNat_of_lt h
theorem iN_add (a b : Nat) : iN a + iN b = iN (a + b) := (Int32.ofNat_add a b).symm
theorem iN_mul (a b : Nat) : iN a * iN b = iN (a * b) := (Int32.ofNat_mul a b).symm
theorem iN_toInt {n : Nat} (h : n < 2147483648) : (iN n).toInt = n := Int32.toInt_ofNat_of_lt h
theorem iN_lt {a b : Nat} (ha : a < 2147483648) (hb : b < 2147483648) : iN a < iN b ↔ a < b := by
  rw [Int32.lt_iff_toInt_lt, iN_toInt ha, iN_toInt hb]
  omega
theorem iN_le {a b : Nat} (ha : a < 2147483648) (hb : b < 2147483648) : iN a ≤ iN b ↔ a ≤ b := by
  rw [Int32.le_iff_toInt_le, iN_toInt ha, iN_toInt hb]
  omega
theorem iN_inj {a b : Nat} (ha : a < 2147483648) (hb : b < 2147483648) : iN a = iN b ↔ a = b := by
  constructor
  · intro h
    have := congrArg Int32.toInt h
    rw [iN_toInt ha, iN_toInt hb] at this
    omega
  · intro h
    rw [h]
theorem iN_nn {n : Nat} (h : n < 2147483648) : (0 : Int32) ≤ iN n := (iN_le (a := 0) (by decide) h).mpr (Nat.zero_le n)
theorem inb_of {n N : Nat} (h : n < N) (h2 : N ≤ 2147483648) : inb (iN n) N := by
  unfold inb
  rw [Int32.toNatClampNeg_ofNat_of_lt (by omega)]
  rintro (h3 | h3)
  · have : (iN n).toInt = n := Int32.toInt_ofNat_of_lt (by omega)
    rw [Int32.lt_iff_toInt_lt, this] at h3
    have h0 : (0 : Int32).toInt = 0 := rfl
    omega
  · omega
theorem iN_of {p : Int32} (h : 0 ≤ p) : ∃ k : Nat, p = iN k ∧ k < 2147483648 ∧ k = ix p :=
  ⟨ix p, (Int32.ofNat_toNatClampNeg p h).symm, Int32.toNatClampNeg_lt p, rfl⟩
theorem iN_of_lt {p : Int32} {n : Nat} (hn : n < 2147483648) (h : 0 ≤ p) (h2 : p < iN n) : ∃ k : Nat, p = iN k ∧ k < n := by
  obtain ⟨k, rfl, hk, -⟩ := iN_of h
  exact ⟨k, rfl, (iN_lt hk hn).mp h2⟩
theorem inb_iff {i : Int32} {N : Nat} (hN : N < 2147483648) : inb i N ↔ 0 ≤ i ∧ i < iN N := by
  constructor
  · intro h
    unfold inb at h
    have h0 : ¬ i < 0 := fun z => h (Or.inl z)
    have h0 : (0 : Int32) ≤ i := Int32.not_lt.mp h0
    obtain ⟨k, rfl, hk, -⟩ := iN_of h0
    refine ⟨h0, (iN_lt hk hN).mpr ?_⟩
    rw [Int32.toNatClampNeg_ofNat_of_lt hk] at h
    exact Nat.not_le.mp fun z => h (Or.inr z)
  · rintro ⟨h0, h1⟩
    obtain ⟨k, rfl, hk⟩ := iN_of_lt hN h0 h1
    exact inb_of hk (by omega)
def sumI (g : Nat → Int32) : Nat → Int32
  | 0 => 0
  | n + 1 => sumI g n + g n
theorem sumI_congr {g h : Nat → Int32} : ∀ {n : Nat}, (∀ i, i < n → g i = h i) → sumI g n = sumI h n
  | 0, _ => rfl
  | n + 1, hh => by
    show sumI g n + g n = sumI h n + h n
    rw [sumI_congr (fun i hi => hh i (by omega)), hh n (by omega)]
/-- a counted loop, from k up to n -/
theorem for_up {P : Nat → Prop} {n : Nat} (hstep : ∀ k, k < n → P (k + 1) → P k) (hend : P n) : P 0 := by
  have : ∀ j, j ≤ n → P (n - j) := by
    intro j
    induction j with
    | zero => intro _; exact hend
    | succ j ih =>
      intro hj
      have h1 := ih (by omega)
      refine hstep (n - (j + 1)) (by omega) ?_
      rwa [show n - (j + 1) + 1 = n - j by omega]
  have h := this n (Nat.le_refl n)
  rwa [Nat.sub_self] at h
