/-! a land as it may be, and what taking up does to it -/
def sumN (g : Nat → Nat) : Nat → Nat
  | 0 => 0
  | n + 1 => sumN g n + g n
theorem sumI_N {g : Nat → Int32} {b : Nat → Nat} : ∀ {n : Nat}, (∀ i, i < n → g i = iN (b i)) → sumI g n = iN (sumN b n)
  | 0, _ => rfl
  | n + 1, h => by
    show sumI g n + g n = iN (sumN b n + b n)
    rw [sumI_N (fun i hi => h i (by omega)), h n (by omega), iN_add]
def updN (b : Nat → Nat) (k x : Nat) (i : Nat) : Nat := if i = k then x else b i
theorem sumN_same {b b' : Nat → Nat} : ∀ {n : Nat}, (∀ i, i < n → b' i = b i) → sumN b' n = sumN b n
  | 0, _ => rfl
  | n + 1, h => by
    show sumN b' n + b' n = sumN b n + b n
    rw [sumN_same (fun i hi => h i (by omega)), h n (by omega)]
theorem sumN_upd {b : Nat → Nat} {k x : Nat} : ∀ {n : Nat}, k < n → sumN (updN b k x) n + b k = sumN b n + x
  | 0, h => by omega
  | n + 1, h => by
    show sumN (updN b k x) n + updN b k x n + b k = sumN b n + b n + x
    by_cases hk : k = n
    · subst hk
      rw [sumN_same (b := b) (fun i hi => by unfold updN; rw [if_neg (by omega)])]
      unfold updN
      rw [if_pos rfl]
      omega
    · have := sumN_upd (b := b) (x := x) (show k < n by omega)
      have e : updN b k x n = b n := by unfold updN; rw [if_neg (by omega)]
      omega
theorem sumN_ge {b : Nat → Nat} {k : Nat} : ∀ {n : Nat}, k < n → b k ≤ sumN b n
  | 0, h => by omega
  | n + 1, h => by
    show b k ≤ sumN b n + b n
    by_cases hk : k = n
    · subst hk
      omega
    · have := sumN_ge (b := b) (show k < n by omega)
      omega
/-- what a person p of size s has on the boots -/
def Bt (T : Ld) (n5 p s : Nat) (b : Nat → Nat) : Prop := (∀ f, f < 10 → T 29 (p * 10 + f) = iN (b f)) ∧ (∀ f, n5 ≤ f → f < 10 → b f = 0) ∧ sumN b 10 ≤ 10 * s
def VTn (B : Nat) (T : Ld) (n5 n6 n7 : Nat) : Prop :=
  n5 ≤ 10 ∧ n6 ≤ 8 ∧ n7 ≤ 12 ∧ T 20 5 = iN n5 ∧ T 20 6 = iN n6 ∧ T 20 7 = iN n7 ∧ (T 20 2 = 0 ∨ T 20 2 = 1) ∧
  (∀ f, f < 10 → ∃ l : Nat, l ≤ 9999 ∧ T 22 f = iN l) ∧
  (∀ p, p < n7 → ∃ (h s : Nat) (b : Nat → Nat), h < n6 ∧ T 25 p = iN h ∧ 1 ≤ s ∧ s ≤ 9 ∧ T 26 p = iN s ∧ Bt T n5 p s b) ∧
  (∀ p, n7 ≤ p → p < 12 → ∀ f, f < 10 → T 29 (p * 10 + f) = 0) ∧
  (∀ e f, e < 8 → f < 10 → ∃ h : Nat, h ≤ B ∧ T 24 (e * 10 + f) = iN h) ∧
  (∀ e f, e < 8 → n5 ≤ f → f < 10 → T 24 (e * 10 + f) = 0)
def VT (B : Nat) (T : Ld) : Prop := ∃ n5 n6 n7, VTn B T n5 n6 n7
theorem VT.cnt {B : Nat} {T : Ld} (h : VT B T) : cntT T := by
  obtain ⟨n5, n6, n7, h1, h2, h3, h4, h5, h6, -⟩ := h
  exact ⟨⟨n5, h1, h4⟩, ⟨n6, h2, h5⟩, ⟨n7, h3, h6⟩⟩
theorem clm_n {m : Nat} {x : Int32} (hm : m < 2147483648) : ∃ k : Nat, k ≤ m ∧ clm (iN m) x = iN k := by
  have h0 : (0 : Int32) ≤ iN m := iN_nn hm
  have h1 : (0 : Int32) ≤ clm (iN m) x := by unfold clm gtr lsr; grind
  have h2 : clm (iN m) x ≤ iN m := by unfold clm gtr lsr; grind
  obtain ⟨k, hk, hk2, -⟩ := iN_of h1
  rw [hk] at h2
  exact ⟨k, (iN_le hk2 hm).mp h2, hk⟩
theorem askS_n (L : Lw) (T : Ld) (word p : Nat) (f e : Option Nat) : ∃ k : Nat, k ≤ 1000 ∧ (word = 0 → k ≤ 99) ∧ askS L T word p f e = iN k := by
  unfold askS
  by_cases h : word = 0
  · rw [if_pos h]
    obtain ⟨k, h1, h2⟩ := clm_n (m := 99) (x := (lawV (fct T p f e) word L).getD (dfl word (T 26 p + T 20 1))) (by decide)
    exact ⟨k, by omega, fun _ => h1, h2⟩
  · rw [if_neg h]
    obtain ⟨k, h1, h2⟩ := clm_n (m := 1000) (x := (lawV (fct T p f e) word L).getD (dfl word (T 26 p + T 20 1))) (by decide)
    exact ⟨k, h1, fun z => absurd z h, h2⟩
theorem lsr_n {a b : Nat} (ha : a < 2147483648) (hb : b < 2147483648) : lsr (iN a) (iN b) = iN (min a b) := by
  unfold lsr
  by_cases h : b ≤ a
  · rw [if_pos ((iN_le hb ha).mpr h), Nat.min_eq_right h]
  · rw [if_neg (fun z => h ((iN_le hb ha).mp z)), Nat.min_eq_left (by omega)]
theorem iN_sub {a b : Nat} (h : b ≤ a) : iN a - iN b = iN (a - b) := by
  have : iN a = iN (a - b) + iN b := by rw [iN_add, Nat.sub_add_cancel h]
  rw [this]
  grind
theorem min_c (x y : Int32) : (if y < x then y else x) = lsr x y := by unfold lsr; grind
def mchS (L : Lw) (T : Ld) (p f : Nat) : Int32 := lsr (askS L T 0 p (some f) none) (lsr (T 22 f) (10 * T 26 p - load T p))
def takeS (L : Lw) (T : Ld) (p f : Nat) : Ld := up2 (up2 T 22 f (T 22 f - mchS L T p f)) 29 (p * 10 + f) (T 29 (p * 10 + f) + mchS L T p f)
theorem up2_at {T : Ld} {c j : Nat} {x : Int32} : up2 T c j x c j = x := if_pos ⟨rfl, rfl⟩
theorem up2_ne {T : Ld} {c j c' j' : Nat} {x : Int32} (h : ¬ (c' = c ∧ j' = j)) : up2 T c j x c' j' = T c' j' := if_neg h
theorem takeS_v {L : Lw} {B n5 n6 n7 : Nat} {T : Ld} {p f : Nat} (h : VTn B T n5 n6 n7) (hp : p < n7) (hf : f < n5) : VTn B (takeS L T p f) n5 n6 n7 := by
  obtain ⟨h1, h2, h3, h4, h5, h6, h7, h8, h9, h10, h11, h12⟩ := h
  obtain ⟨hm, s, b, a1, a2, a3, a4, a5, b1, b2, b3⟩ := h9 p hp
  obtain ⟨l, l1, l2⟩ := h8 f (by omega)
  have hl : load T p = iN (sumN b 10) := sumI_N (fun i hi => b1 i hi)
  obtain ⟨k, k1, k2, k3⟩ := askS_n L T 0 p (some f) none
  have k2 := k2 rfl
  have hroom : 10 * T 26 p - load T p = iN (10 * s - sumN b 10) := by
    rw [a5, hl, iN_lit, iN_mul, iN_sub b3]
  have hmch : mchS L T p f = iN (min k (min l (10 * s - sumN b 10))) := by
    unfold mchS
    rw [k3, l2, hroom, lsr_n (by omega) (by omega), lsr_n (by omega) (by omega)]
  generalize hmu : min k (min l (10 * s - sumN b 10)) = mu at hmch
  have hlmu : mu ≤ l := by omega
  have hrmu : mu ≤ 10 * s - sumN b 10 := by omega
  have hbf := sumN_ge (b := b) (show f < 10 by omega)
  have e22 : T 22 f - mchS L T p f = iN (l - mu) := by rw [l2, hmch, iN_sub hlmu]
  have e29 : T 29 (p * 10 + f) + mchS L T p f = iN (b f + mu) := by rw [b1 f (by omega), hmch, iN_add]
  unfold takeS
  rw [e22, e29]
  have off : ∀ c j, c ≠ 22 → c ≠ 29 → up2 (up2 T 22 f (iN (l - mu))) 29 (p * 10 + f) (iN (b f + mu)) c j = T c j := fun c j q1 q2 => by rw [up2_ne (by omega), up2_ne (by omega)]
  refine ⟨h1, h2, h3, ?_, ?_, ?_, ?_, fun g hg => ?_, fun q hq => ?_, fun q hq1 hq2 g hg => ?_, fun e g he hg => ?_, fun e g he hg hg2 => ?_⟩
  · rw [off _ _ (by decide) (by decide)]; exact h4
  · rw [off _ _ (by decide) (by decide)]; exact h5
  · rw [off _ _ (by decide) (by decide)]; exact h6
  · rw [off _ _ (by decide) (by decide)]; exact h7
  · rw [up2_ne (by omega)]
    by_cases hgf : g = f
    · subst hgf
      rw [up2_at]
      exact ⟨l - mu, by omega, rfl⟩
    · rw [up2_ne (by omega)]
      exact h8 g hg
  · obtain ⟨hm', s', b', c1, c2, c3, c4, c5, d1, d2, d3⟩ := h9 q hq
    by_cases hqp : q = p
    · subst hqp
      have hs : s' = s := by
        rw [c5] at a5
        exact (iN_inj (by omega) (by omega)).mp a5
      subst hs
      refine ⟨hm', s', updN b f (b f + mu), c1, ?_, c3, c4, ?_, fun g hg => ?_, fun g hg1 hg2 => ?_, ?_⟩
      · rw [off _ _ (by decide) (by decide)]; exact c2
      · rw [off _ _ (by decide) (by decide)]; exact c5
      · by_cases hgf : g = f
        · subst hgf
          rw [up2_at]
          unfold updN
          rw [if_pos rfl]
        · rw [up2_ne (by omega), up2_ne (by omega), b1 g hg]
          unfold updN
          rw [if_neg hgf]
      · unfold updN
        rw [if_neg (by omega)]
        exact b2 g hg1 hg2
      · have := sumN_upd (b := b) (k := f) (x := b f + mu) (n := 10) (by omega)
        omega
    · refine ⟨hm', s', b', c1, ?_, c3, c4, ?_, fun g hg => ?_, d2, d3⟩
      · rw [off _ _ (by decide) (by decide)]; exact c2
      · rw [off _ _ (by decide) (by decide)]; exact c5
      · rw [up2_ne (by omega), up2_ne (by omega)]
        exact d1 g hg
  · rw [up2_ne (by omega), up2_ne (by omega)]
    exact h10 q hq1 hq2 g hg
  · rw [off _ _ (by decide) (by decide)]
    exact h11 e g he hg
  · rw [off _ _ (by decide) (by decide)]
    exact h12 e g he hg hg2
