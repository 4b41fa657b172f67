/-! draws that come later -/
theorem shm : ∀ b : Nat, b < 32 → (((iN b) &&& 31).toBitVec.smod 32).toNat = b := by decide
theorem iN_shr {n b : Nat} (hn : n < 2147483648) (hb : b < 32) : iN n >>> (iN b &&& 31) = iN (n / 2 ^ b) := pk_shrN hn _ b (shm b hb)
theorem iN_shl {n b : Nat} (hb : b < 32) (h : n * 2 ^ b < 4294967296) : iN n <<< (iN b &&& 31) = iN (n * 2 ^ b) := pk_shlN _ b (shm b hb) h
theorem iN_and1 {n : Nat} (hn : n < 4294967296) : iN n &&& 1 = iN (n % 2) := pk_andN hn 1 (by decide)
theorem iN_div {a b : Nat} (ha : a < 2147483648) (h0 : 0 < b) (hb : b < 2147483648) : iN a / iN b = iN (a / b) := pk_div ha h0 hb
theorem iN_mod {a b : Nat} (ha : a < 2147483648) (h0 : 0 < b) (hb : b < 2147483648) : iN a % iN b = iN (a % b) := by rw [← rem32]; exact pk_rem ha h0 hb
def lat : Nat → Nat → Int32 → Int32 → Int32 → Int32
  | 0, _, s, _, _ => s
  | k + 1, n, s, f, t => lat k (n / 2) (if n % 2 = 1 then f * s + t else s) (f * f) (f * t + t)
theorem lat_0 : ∀ (k : Nat) (s f t : Int32), lat k 0 s f t = s
  | 0, _, _, _ => rfl
  | k + 1, s, f, t => by
    show lat k (0 / 2) (if 0 % 2 = 1 then f * s + t else s) (f * f) (f * t + t) = s
    rw [if_neg (by decide), Nat.zero_div]
    exact lat_0 k s _ _
theorem c138_l {X : Cx} {d : Nat} {M : Mem} {n : Nat} {Q : Option Vl → Mem → Prop} (hn : n < 2147483648) : ∀ (k b : Nat) (s f t : Int32), b + k = 31 → Q (some (vI (lat k (n / 2 ^ b) s f t))) M → V X (d + 1) 138 33 [none, some (vI (iN n)), some (vI s), some (vI f), some (vI t), some (vI (iN b))] [] M Q
  | 0, b, s, f, t, hb, h => by
    refine w138_33 ⟨fun _ => h, fun z => absurd ?_ z⟩
    exact (iN_le (a := 31) (by decide) (by omega)).mpr (by omega)
  | k + 1, b, s, f, t, hb, h => by
    refine w138_33 ⟨fun z => absurd ((iN_le (a := 31) (by decide) (by omega)).mp z) (by omega), fun _ => ?_⟩
    have hdv : n / 2 ^ b < 2147483648 := Nat.lt_of_le_of_lt (Nat.div_le_self _ _) hn
    have h1 : (iN (n / 2 ^ b % 2) = 1) ↔ n / 2 ^ b % 2 = 1 := iN_inj (b := 1) (by omega) (by decide)
    have h2 : n / 2 ^ (b + 1) = n / 2 ^ b / 2 := by rw [Nat.pow_succ, Nat.div_div_eq_div_mul]
    rw [iN_shr hn (by omega), iN_and1 (by omega), iN_step, h1]
    have e1 : lat (k + 1) (n / 2 ^ b) s f t = lat k (n / 2 ^ (b + 1)) (if n / 2 ^ b % 2 = 1 then f * s + t else s) (f * f) (f * t + t) := by rw [h2]; rfl
    rw [e1] at h
    refine ⟨fun z => ?_, fun z => ?_⟩
    · rw [if_neg z] at h
      exact c138_l hn k (b + 1) _ _ _ (by omega) h
    · rw [if_pos z] at h
      exact c138_l hn k (b + 1) _ _ _ (by omega) h
theorem c266_l {X : Cx} {d : Nat} {M : Mem} {Q : Option Vl → Mem → Prop} : ∀ (k n : Nat) (s f t : Int32), n < 2 ^ k → n < 2147483648 → Q (some (vI (lat k n s f t))) M → V X (d + 1) 266 30 [none, none, some (vI s), some (vI f), some (vI t), some (vI (iN n))] [] M Q
  | 0, n, s, f, t, hk, hn, h => by
    have h0 : n = 0 := by simpa using hk
    subst h0
    exact w266_30 ⟨fun _ => h, fun z => absurd (by decide) z⟩
  | k + 1, n, s, f, t, hk, hn, h => by
    rcases Nat.eq_zero_or_pos n with h0 | h0
    · subst h0
      rw [lat_0] at h
      exact w266_30 ⟨fun _ => h, fun z => absurd (by decide) z⟩
    · have hd2 : iN n / 2 = iN (n / 2) := iN_div (b := 2) hn (by decide) (by decide)
      have hm2 : iN n % 2 = iN (n % 2) := iN_mod (b := 2) hn (by decide) (by decide)
      have h1 : (iN (n % 2) = 1) ↔ n % 2 = 1 := iN_inj (b := 1) (by omega) (by decide)
      refine w266_30 ⟨fun z => absurd ((iN_le (b := 0) hn (by decide)).mp z) (by omega), fun _ => ⟨by decide, ?_⟩⟩
      rw [hm2, hd2, h1, Int32.mul_comm s f, Int32.mul_comm t f]
      have e1 : lat (k + 1) n s f t = lat k (n / 2) (if n % 2 = 1 then f * s + t else s) (f * f) (f * t + t) := rfl
      rw [e1] at h
      refine ⟨fun z => ⟨by decide, ?_⟩, fun z => ⟨by decide, ?_⟩⟩
      · rw [if_neg z] at h
        exact c266_l k (n / 2) _ _ _ (by omega) (by omega) h
      · rw [if_pos z] at h
        exact c266_l k (n / 2) _ _ _ (by omega) (by omega) h
/-- later, both -/
theorem op138 {X : Cx} {d : Nat} {M : Mem} {v : Int32} (h : M.1 20 0 0 = M.1 101 0 4) : ∃ (x : Int32), CC X (d + 2) 138 [vR 2 0, vI v] M (some (vI x)) M ∧ CC X (d + 2) 266 [vR 100 0, vI v] M (some (vI x)) M := by
  have hx4 : ix 4 = 4 := ix_l (by decide)
  by_cases h1 : inR v 0 2000000000 = true
  · obtain ⟨n, rfl, hn⟩ := inR_iN (hi := 2000000000) (by decide) h1
    refine ⟨lat 31 n (M.1 20 0 0) 1664525 1013904223, e138 (w138_0 ⟨_, _, c146, bI_if1 (fun _ => ?_) (fun z => by rw [h1] at z; cases z)⟩), e266 (w266_0 ⟨_, _, c151, bI_if1 (fun _ => ⟨inb_l (by decide) (by decide), ?_⟩) (fun z => by rw [h1] at z; cases z)⟩)⟩
    · exact c138_l (by omega) 31 0 _ _ _ rfl ⟨by rw [Nat.pow_zero, Nat.div_one], rfl⟩
    · rw [hx4, ← h]
      exact c266_l 31 n _ _ _ (by omega) (by omega) ⟨rfl, rfl⟩
  · have h1 : inR v 0 2000000000 = false := by simpa using h1
    exact ⟨0, e138 (w138_0 ⟨_, _, c146, bI_if1 (fun z => by rw [h1] at z; cases z) (fun _ => ⟨rfl, rfl⟩)⟩), e266 (w266_0 ⟨_, _, c151, bI_if1 (fun z => by rw [h1] at z; cases z) (fun _ => ⟨rfl, rfl⟩)⟩)⟩
/-! draws -/
def drw (s : Int32) : Int32 := 1664525 * s + 1013904223
def drn (s m : Int32) : Int32 := ((s.toUInt32 >>> (Int32.toUInt32 8 &&& Int32.toUInt32 31)).toInt32) % m
theorem c147 {X : Cx} {d : Nat} {M : Mem} {s : Int32} : CC X (d + 1) 147 [vI s] M (some (vI (drw s))) M := e147 (w147_0 ⟨rfl, rfl⟩)
theorem c148 {X : Cx} {d : Nat} {M : Mem} {s m : Int32} (hm : 0 < m) : CC X (d + 1) 148 [vI s, vI m] M (some (vI (drn s m))) M :=
  e148 (w148_0 ⟨fun z => absurd z (by grind), fun _ => ⟨by grind, rfl, rfl⟩⟩)
theorem c161 {X : Cx} {d : Nat} {M : Mem} {m : Int32} (hm : 0 < m) : CC X (d + 1) 161 [vR 100 0, vI m] M (some (vI (drn (drw (M.1 101 0 4)) m))) (st M 101 0 4 (drw (M.1 101 0 4))) := by
  have hx4 : ix 4 = 4 := ix_l (by decide)
  have hi : inb 4 2129 := inb_l (by decide) (by decide)
  refine e161 (w161_0 ⟨hi, hi, ?_⟩)
  rw [hx4]
  rintro M1 rfl
  exact ⟨hi, by grind, by rw [st_at]; rfl, rfl⟩
/-- the first of the next 999 draws of m that is below v; k draws are left -/
def fst9 (m v : Int32) : Nat → Int32 → Int32
  | 0, _ => -1
  | k + 1, s => if v ≤ drn (drw s) m then fst9 m v k (drw s) else iN (999 - k)
theorem st_same {M : Mem} {c a j : Nat} {x y : Int32} : st (st M c a j x) c a j y = st M c a j y := by
  refine Prod.ext ?_ rfl
  funext c' a' j'
  show (if c' = c ∧ a' = a ∧ j' = j then y else (if c' = c ∧ a' = a ∧ j' = j then x else M.1 c' a' j')) = (if c' = c ∧ a' = a ∧ j' = j then y else M.1 c' a' j')
  split <;> rfl
theorem st_id {M : Mem} {c a j : Nat} {x : Int32} (h : M.1 c a j = x) : st M c a j x = M := by
  refine Prod.ext ?_ rfl
  funext c' a' j'
  show (if c' = c ∧ a' = a ∧ j' = j then x else M.1 c' a' j') = M.1 c' a' j'
  split
  · rename_i z
    rw [z.1, z.2.1, z.2.2, h]
  · rfl
theorem c139_l {X : Cx} {d : Nat} {M : Mem} {m v : Int32} {Q : Option Vl → Mem → Prop} (hm : 0 < m) : ∀ (k : Nat) (s : Int32), k ≤ 999 → Q (some (vI (fst9 m v k s))) M → V X (d + 2) 139 33 [none, some (vI m), some (vI v), some (vI s), some (vI (iN (1000 - k)))] [] M Q
  | 0, s, hk, h => w139_33 ⟨fun _ => h, fun z => absurd (by decide) z⟩
  | k + 1, s, hk, h => by
    refine w139_33 ⟨fun z => absurd ((iN_lt (a := 999) (by decide) (by omega)).mp z) (by omega), fun _ => ⟨_, _, c147, _, _, c148 hm, fun z => ?_, fun z => ?_⟩⟩
    · have e1 : fst9 m v (k + 1) s = fst9 m v k (drw s) := if_pos z
      rw [e1] at h
      rw [iN_step, show 1000 - (k + 1) + 1 = 1000 - k by omega]
      exact c139_l hm k _ (by omega) h
    · have e1 : fst9 m v (k + 1) s = iN (999 - k) := if_neg z
      rw [e1] at h
      rw [show 1000 - (k + 1) = 999 - k by omega]
      exact h
theorem c267_l {X : Cx} {d : Nat} {M : Mem} {m v s0 : Int32} {Q : Option Vl → Mem → Prop} (hm : 0 < m) : ∀ (k : Nat) (s : Int32), k ≤ 999 → Q (some (vI (fst9 m v k s))) (st M 101 0 4 s0) → V X (d + 2) 267 35 [some (vR 100 0), some (vI m), some (vI v), some (vI s0), some (vI (iN (999 - k))), some (vI 0)] [] (st M 101 0 4 s) Q
  | 0, s, hk, h => by
    have hx4 : ix 4 = 4 := ix_l (by decide)
    have hi : inb 4 2129 := inb_l (by decide) (by decide)
    refine w267_35 ⟨fun _ => ⟨hi, ?_⟩, fun z => absurd (by decide) z⟩
    rw [hx4]
    rintro M1 rfl
    rw [st_same]
    exact ⟨fun _ => h, fun z => absurd rfl z⟩
  | k + 1, s, hk, h => by
    have hx4 : ix 4 = 4 := ix_l (by decide)
    have hi : inb 4 2129 := inb_l (by decide) (by decide)
    have c := c161 (X := X) (d := d) (M := st M 101 0 4 s) (m := m) hm
    rw [st_at, st_same] at c
    refine w267_35 ⟨fun z => absurd ((iN_le (a := 999) (by decide) (by omega)).mp z) (by omega), fun _ => ⟨fun z => absurd rfl z, fun _ => ⟨_, _, c, fun z => ?_, fun z => ?_⟩⟩⟩
    · have e1 : fst9 m v (k + 1) s = fst9 m v k (drw s) := if_pos z
      rw [e1] at h
      rw [iN_step, show 999 - (k + 1) + 1 = 999 - k by omega]
      exact c267_l hm k _ (by omega) h
    · have e1 : fst9 m v (k + 1) s = iN (999 - k) := if_neg z
      rw [e1] at h
      rw [iN_step, show 999 - (k + 1) + 1 = 999 - k by omega]
      have key : inb 4 2129 ∧ ∀ M1, M1 = st (st M 101 0 4 (drw s)) 101 0 (ix 4) s0 → ((1 : Int32) = 0 → Q (some (vI (-1))) M1) ∧ (¬ (1 : Int32) = 0 → Q (some (vI (iN (999 - k)))) M1) := by
        refine ⟨hi, ?_⟩
        rw [hx4]
        rintro M1 rfl
        rw [st_same]
        exact ⟨fun z => absurd z (by decide), fun _ => h⟩
      exact w267_35 ⟨fun _ => key, fun _ => ⟨fun _ => key, fun z => absurd z (by decide)⟩⟩
/-- first, both -/
theorem op139 {X : Cx} {d : Nat} {M : Mem} {m v : Int32} (h : M.1 20 0 0 = M.1 101 0 4) : ∃ (x : Int32), CC X (d + 2) 139 [vR 2 0, vI m, vI v] M (some (vI x)) M ∧ CC X (d + 2) 267 [vR 100 0, vI m, vI v] M (some (vI x)) M := by
  have hx4 : ix 4 = 4 := ix_l (by decide)
  have hi : inb 4 2129 := inb_l (by decide) (by decide)
  by_cases h1 : inR m 2 1000 = true
  · by_cases h2 : inR v 1 m = true
    · have hm : 0 < m := by
        simp only [inR, Bool.and_eq_true, decide_eq_true_eq] at h1
        grind
      refine ⟨fst9 m v 999 (M.1 20 0 0), e139 (w139_0 ⟨_, _, c146, bI_if (fun z => by rw [h1] at z; cases z) (fun _ => ⟨_, _, c146, bI_if1 (fun _ => ?_) (fun z => by rw [h2] at z; cases z)⟩)⟩), e267 (w267_0 ⟨_, _, c151, bI_if (fun z => by rw [h1] at z; cases z) (fun _ => ⟨_, _, c151, bI_if1 (fun _ => ⟨hi, ?_⟩) (fun z => by rw [h2] at z; cases z)⟩)⟩)⟩
      · exact c139_l hm 999 _ (Nat.le_refl _) ⟨rfl, rfl⟩
      · rw [hx4]
        have hl := c267_l (X := X) (d := d) (M := M) (m := m) (v := v) (s0 := M.1 101 0 4) (Q := fun r' M' => r' = some (vI (fst9 m v 999 (M.1 20 0 0))) ∧ M' = M) hm 999 (M.1 101 0 4) (Nat.le_refl _) ⟨by rw [h], st_id rfl⟩
        rw [st_id rfl] at hl
        exact hl
    · have h2 : inR v 1 m = false := by simpa using h2
      exact ⟨-1, e139 (w139_0 ⟨_, _, c146, bI_if (fun z => by rw [h1] at z; cases z) (fun _ => ⟨_, _, c146, bI_if1 (fun z => by rw [h2] at z; cases z) (fun _ => ⟨rfl, rfl⟩)⟩)⟩), e267 (w267_0 ⟨_, _, c151, bI_if (fun z => by rw [h1] at z; cases z) (fun _ => ⟨_, _, c151, bI_if1 (fun z => by rw [h2] at z; cases z) (fun _ => ⟨rfl, rfl⟩)⟩)⟩)⟩
  · have h1 : inR m 2 1000 = false := by simpa using h1
    exact ⟨-1, e139 (w139_0 ⟨_, _, c146, bI_if (fun _ => ⟨rfl, rfl⟩) (fun z => by rw [h1] at z; cases z)⟩), e267 (w267_0 ⟨_, _, c151, bI_if (fun _ => ⟨rfl, rfl⟩) (fun z => by rw [h1] at z; cases z)⟩)⟩
