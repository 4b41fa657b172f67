/-! texts: tokens, as both sides see them -/
def isLc (c : Nat) : Bool := (decide (97 ≤ c) && decide (c ≤ 122)) || (decide (65 ≤ c) && decide (c ≤ 90))
def isDc (c : Nat) : Bool := decide (48 ≤ c) && decide (c ≤ 57)
def isWc (c : Nat) : Bool := decide (c = 32) || decide (c = 10)
def rnE (P : Nat → Bool) (b : Nat → Nat) (n : Nat) : Nat → Nat → Nat
  | 0, p => p
  | f + 1, p => if p < n ∧ P (b p) = true then rnE P b n f (p + 1) else p
def enP (P : Nat → Bool) (b : Nat → Nat) (n p : Nat) : Nat := rnE P b n (n - p) p
theorem enP_go {P : Nat → Bool} {b : Nat → Nat} {n p : Nat} (h : p < n) (h2 : P (b p) = true) : enP P b n p = enP P b n (p + 1) := by
  unfold enP
  rw [show n - p = (n - (p + 1)) + 1 by omega]
  exact if_pos ⟨h, h2⟩
theorem enP_st {P : Nat → Bool} {b : Nat → Nat} {n p : Nat} (h : ¬ (p < n ∧ P (b p) = true)) : enP P b n p = p := by
  unfold enP
  cases n - p with
  | zero => rfl
  | succ f => exact if_neg h
theorem enP_ind {P : Nat → Bool} {b : Nat → Nat} {n : Nat} {C : Nat → Prop} (hs : ∀ p, ¬ (p < n ∧ P (b p) = true) → C p) (hg : ∀ p, p < n → P (b p) = true → C (p + 1) → C p) : ∀ p, C p := by
  have : ∀ (t p : Nat), n - p = t → C p := by
    intro t
    induction t with
    | zero => intro p hp; exact hs p (fun z => by omega)
    | succ t ih =>
      intro p hp
      by_cases h : P (b p) = true
      · exact hg p (by omega) h (ih (p + 1) (by omega))
      · exact hs p (fun z => h z.2)
  exact fun p => this (n - p) p rfl
theorem enP_le {P : Nat → Bool} {b : Nat → Nat} {n : Nat} : ∀ p, p ≤ n → p ≤ enP P b n p ∧ enP P b n p ≤ n := by
  refine enP_ind (P := P) (b := b) (n := n) (C := fun p => p ≤ n → p ≤ enP P b n p ∧ enP P b n p ≤ n) (fun p h hp => ?_) (fun p h1 h2 ih hp => ?_)
  · rw [enP_st h]
    omega
  · rw [enP_go h1 h2]
    have := ih (by omega)
    omega
theorem enP_out {P : Nat → Bool} {b : Nat → Nat} {n : Nat} : ∀ p, ¬ (enP P b n p < n ∧ P (b (enP P b n p)) = true) := by
  refine enP_ind (P := P) (b := b) (n := n) (C := fun p => ¬ (enP P b n p < n ∧ P (b (enP P b n p)) = true)) (fun p h => ?_) (fun p h1 h2 ih => ?_)
  · rw [enP_st h]
    exact h
  · rw [enP_go h1 h2]
    exact ih
theorem enP_all {P : Nat → Bool} {b : Nat → Nat} {n : Nat} : ∀ p j, p ≤ j → j < enP P b n p → P (b j) = true := by
  refine enP_ind (P := P) (b := b) (n := n) (C := fun p => ∀ j, p ≤ j → j < enP P b n p → P (b j) = true) (fun p h j h1 h2 => ?_) (fun p h1 h2 ih j h3 h4 => ?_)
  · rw [enP_st h] at h2
    omega
  · rw [enP_go h1 h2] at h4
    by_cases hj : j = p
    · rw [hj]
      exact h2
    · exact ih j (by omega) h4
def bys (b : Nat → Nat) (s e : Nat) : List Nat := (List.range (e - s)).map (fun j => b (s + j))
/-- the words, by their places in the class's list -/
def wls : List (List Nat) := [[115,105,122,101],[104,101,101,108],[99,108,97,121],[108,97,110,100],[108,111,97,100],[119,101,116],[102,114,111,115,116],[115,116,111,110,101],[99,97,108,108,101,100],[100,97,121],[116,97,107,101,115],[108,101,97,118,101,115],[115,116,114,97,121,115],[119,104,101,110],[111,114],[97,110,100],[110,111,116],[111,110],[112,101,114,115,111,110],[98,121],[116,111],[116,104,97,119],[100,111,111,114]]
def wvF (l : List Nat) : Nat → Nat
  | 0 => 30000
  | t + 1 => if wls.getD (22 - t) [] = l then 10000 + (22 - t) else wvF l t
def nmV (b : Nat → Nat) (s : Nat) : Nat → Nat
  | 0 => 0
  | k + 1 => nmV b s k * 10 + (b (s + k) - 48)
def tkE (b : Nat → Nat) (n s : Nat) : Nat := if isLc (b s) = true then enP isLc b n s else if isDc (b s) = true then enP isDc b n s else s + 1
def tkV (b : Nat → Nat) (n s : Nat) : Nat := if isLc (b s) = true then wvF (bys b s (enP isLc b n s)) 23 else if isDc (b s) = true then (if enP isDc b n s - s ≤ 4 then nmV b s (enP isDc b n s - s) else 30000) else 20000 + b s
def skW (b : Nat → Nat) (n p : Nat) : Nat := enP isWc b n p
def ps (b : Nat → Nat) (n : Nat) : Nat → Nat
  | 0 => skW b n 0
  | k + 1 => if ps b n k < n then skW b n (tkE b n (ps b n k)) else ps b n k
def tk (b : Nat → Nat) (n k : Nat) : Nat := if ps b n k < n then tkV b n (ps b n k) else 30001
theorem tkE_b {b : Nat → Nat} {n s : Nat} (h : s < n) : s < tkE b n s ∧ tkE b n s ≤ n := by
  unfold tkE
  by_cases h1 : isLc (b s) = true
  · rw [if_pos h1, enP_go h h1]
    have := enP_le (P := isLc) (b := b) (n := n) (s + 1) (by omega)
    omega
  · rw [if_neg h1]
    by_cases h2 : isDc (b s) = true
    · rw [if_pos h2, enP_go h h2]
      have := enP_le (P := isDc) (b := b) (n := n) (s + 1) (by omega)
      omega
    · rw [if_neg h2]
      omega
theorem ps_le {b : Nat → Nat} {n : Nat} : ∀ k : Nat, ps b n k ≤ n
  | 0 => (enP_le (P := isWc) (b := b) (n := n) 0 (Nat.zero_le _)).2
  | k + 1 => by
    show (if ps b n k < n then skW b n (tkE b n (ps b n k)) else ps b n k) ≤ n
    by_cases h : ps b n k < n
    · rw [if_pos h]
      exact (enP_le (P := isWc) _ (tkE_b h).2).2
    · rw [if_neg h]
      exact ps_le k
theorem ps_go {b : Nat → Nat} {n k : Nat} (h : ps b n k < n) : ps b n (k + 1) = skW b n (tkE b n (ps b n k)) := if_pos h
theorem ps_st {b : Nat → Nat} {n k : Nat} (h : ¬ ps b n k < n) : ps b n (k + 1) = ps b n k := if_neg h
theorem ps_up {b : Nat → Nat} {n k : Nat} (h : ps b n k < n) : ps b n k < ps b n (k + 1) := by
  rw [ps_go h]
  have h1 := tkE_b (b := b) h
  have := (enP_le (P := isWc) (b := b) (n := n) _ h1.2).1
  unfold skW
  omega
theorem ps_ge {b : Nat → Nat} {n : Nat} : ∀ k : Nat, k ≤ ps b n k ∨ ps b n k = n
  | 0 => Or.inl (Nat.zero_le _)
  | k + 1 => by
    by_cases h : ps b n k < n
    · have h1 := ps_up h
      rcases ps_ge (b := b) (n := n) k with h2 | h2
      · exact Or.inl (by omega)
      · omega
    · rw [ps_st h]
      have := ps_le (b := b) (n := n) k
      exact Or.inr (by omega)
theorem ps_end (b : Nat → Nat) (n : Nat) : ∃ m, m ≤ n ∧ (∀ k, m ≤ k → ps b n k = n) ∧ ∀ k, k < m → ps b n k < n := by
  obtain ⟨m, h1, h2⟩ := least (P := fun k => ps b n k = n) n (by
    have := ps_le (b := b) (n := n) n
    rcases ps_ge (b := b) (n := n) n with h | h
    · omega
    · exact h)
  refine ⟨m, Nat.not_lt.mp (fun z => ?_), fun k hk => ?_, fun k hk => ?_⟩
  · have := ps_le (b := b) (n := n) n
    rcases ps_ge (b := b) (n := n) n with h | h
    · exact h2 n z (by omega)
    · exact h2 n z h
  · have key : ∀ t, ps b n (m + t) = n := by
      intro t
      induction t with
      | zero => exact h1
      | succ t ih =>
        show ps b n (m + t + 1) = n
        rw [ps_st (by omega)]
        exact ih
    have := key (k - m)
    rwa [show m + (k - m) = k by omega] at this
  · have := ps_le (b := b) (n := n) k
    have := h2 k hk
    omega
theorem tk_end {b : Nat → Nat} {n k : Nat} (h : ps b n k = n) : tk b n k = 30001 := if_neg (by omega)
theorem nmV_lt {b : Nat → Nat} {s : Nat} : ∀ k : Nat, (∀ j, j < k → isDc (b (s + j)) = true) → nmV b s k < 10 ^ k
  | 0, _ => by show 0 < 1; decide
  | k + 1, h => by
    have h1 := nmV_lt k (fun j hj => h j (by omega))
    have h2 := h k (by omega)
    simp only [isDc, Bool.and_eq_true, decide_eq_true_eq] at h2
    show nmV b s k * 10 + (b (s + k) - 48) < 10 ^ (k + 1)
    rw [Nat.pow_succ]
    omega
theorem wvF_b {l : List Nat} : ∀ t : Nat, wvF l t = 30000 ∨ (10000 ≤ wvF l t ∧ wvF l t < 10023)
  | 0 => Or.inl rfl
  | t + 1 => by
    unfold wvF
    split
    · exact Or.inr ⟨by omega, by omega⟩
    · exact wvF_b t
/-- what a token can be -/
theorem tkV_b {b : Nat → Nat} {n s : Nat} (h : s < n) (hb : b s < 256) (hw : isWc (b s) = false) : (tkV b n s < 10000) ∨ (10000 ≤ tkV b n s ∧ tkV b n s < 10023) ∨ (20000 ≤ tkV b n s ∧ tkV b n s < 20256) ∨ tkV b n s = 30000 := by
  unfold tkV
  by_cases h1 : isLc (b s) = true
  · rw [if_pos h1]
    rcases wvF_b (l := bys b s (enP isLc b n s)) 23 with h2 | h2
    · exact Or.inr (Or.inr (Or.inr h2))
    · exact Or.inr (Or.inl h2)
  · rw [if_neg h1]
    by_cases h2 : isDc (b s) = true
    · rw [if_pos h2]
      by_cases h3 : enP isDc b n s - s ≤ 4
      · rw [if_pos h3]
        have := nmV_lt (b := b) (s := s) (enP isDc b n s - s) (fun j hj => enP_all (P := isDc) (b := b) (n := n) s (s + j) (by omega) (by omega))
        have h4 : 10 ^ (enP isDc b n s - s) ≤ 10 ^ 4 := Nat.pow_le_pow_right (by decide) h3
        exact Or.inl (by omega)
      · rw [if_neg h3]
        exact Or.inr (Or.inr (Or.inr rfl))
    · rw [if_neg h2]
      exact Or.inr (Or.inr (Or.inl ⟨by omega, by omega⟩))
/-! the tape -/
def TpC (M : Mem) (b : Nat → Nat) (n : Nat) : Prop := n ≤ 400 ∧ M.1 3 0 7 = iN n ∧ ∀ j, j < n → M.1 4 0 j = iN (b j) ∧ b j < 256
theorem c27 {X : Cx} {d : Nat} {M : Mem} {c : Nat} (hc : c < 256) : CC X (d + 1) 27 [vI (iN c)] M (some (vI (bI (isLc c)))) M := by
  refine e27 (w27_0 ?_)
  have h1 : (iN c < 97) = (c < 97) := propext (iN_lt (b := 97) (by omega) (by decide))
  have h2 : (iN c < 65) = (c < 65) := propext (iN_lt (b := 65) (by omega) (by decide))
  have h3 : (90 < iN c) = (90 < c) := propext (iN_lt (a := 90) (by decide) (by omega))
  have h4 : (iN c ≤ 122) = (c ≤ 122) := propext (iN_le (b := 122) (by omega) (by decide))
  simp only [h1, h2, h3, h4, isB0, isB1, true_and, and_true, Option.some.injEq, Sum.inl.injEq]
  unfold isLc
  by_cases a1 : c < 97
  · by_cases a2 : c < 65
    · simp [a1, a2, show ¬ 97 ≤ c by omega, show ¬ 65 ≤ c by omega, bI]
    · by_cases a3 : 90 < c
      · simp [a1, a2, a3, show ¬ 97 ≤ c by omega, show ¬ c ≤ 90 by omega, bI]
      · simp [a1, a2, a3, show ¬ 97 ≤ c by omega, show 65 ≤ c by omega, show c ≤ 90 by omega, bI]
  · by_cases a4 : c ≤ 122
    · simp [a1, a4, show 97 ≤ c by omega, bI]
    · by_cases a2 : c < 65
      · omega
      · simp [a1, a4, a2, show 90 < c by omega, show ¬ c ≤ 90 by omega, bI]
theorem c28 {X : Cx} {d : Nat} {M : Mem} {c : Nat} (hc : c < 256) : CC X (d + 1) 28 [vI (iN c)] M (some (vI (bI (isDc c)))) M := by
  refine e28 (w28_0 ?_)
  have h2 : (iN c < 48) = (c < 48) := propext (iN_lt (b := 48) (by omega) (by decide))
  have h3 : (57 < iN c) = (57 < c) := propext (iN_lt (a := 57) (by decide) (by omega))
  simp only [h2, h3, isB0, isB1, true_and, and_true, Option.some.injEq, Sum.inl.injEq]
  unfold isDc
  by_cases a2 : c < 48
  · simp [a2, show ¬ 48 ≤ c by omega, bI]
  · by_cases a3 : 57 < c
    · simp [a2, a3, show ¬ c ≤ 57 by omega, bI]
    · simp [a2, a3, show 48 ≤ c by omega, show c ≤ 57 by omega, bI]
theorem c29 {X : Cx} {d : Nat} {M : Mem} {b : Nat → Nat} {n p : Nat} (h : TpC M b n) (hp : p ≤ n) : CC X (d + 2) 29 [vR 3 0, vI (iN p)] M (some (vI (iN (enP isLc b n p)))) M := by
  obtain ⟨h1, h2, h3⟩ := h
  refine e29 (w29_0 ?_)
  refine enP_ind (P := isLc) (b := b) (n := n) (C := fun q => p ≤ q → q ≤ n → enP isLc b n q = enP isLc b n p → V X (d + 2) 29 2 [some (vR 3 0), none, some (vI (iN q))] [] M (fun r' M' => r' = some (vI (iN (enP isLc b n p))) ∧ M' = M)) (fun q hq hpq hqn he => w29_2 ?_) (fun q hq1 hq2 ih hpq hqn he => w29_2 ?_) p (Nat.le_refl _) hp rfl
  · rw [enP_st hq] at he
    subst he
    by_cases hqn2 : enP isLc b n p < n
    · refine ⟨fun z => absurd ((iN_le (by omega) (by omega)).mp (h2 ▸ z)) (by omega), fun _ => ⟨fun z => absurd ((iN_le (a := 400) (by decide) (by omega)).mp z) (by omega), fun _ => ⟨inb_of (by omega) (by decide), ?_⟩⟩⟩
      have hb := h3 _ hqn2
      have hc := c27 (X := X) (d := d) (M := M) (c := b (enP isLc b n p)) hb.2
      rw [show isLc (b (enP isLc b n p)) = false by
        cases hh : isLc (b (enP isLc b n p)) with
        | false => rfl
        | true => exact absurd ⟨hqn2, hh⟩ hq] at hc
      rw [ix_of (by omega), hb.1]
      exact ⟨_, _, hc, fun _ => ⟨rfl, rfl⟩, fun z => absurd rfl z⟩
    · refine ⟨fun _ => ⟨rfl, rfl⟩, fun z => absurd ?_ z⟩
      rw [h2]
      exact (iN_le (by omega) (by omega)).mpr (by omega)
  · refine ⟨fun z => absurd ((iN_le (by omega) (by omega)).mp (h2 ▸ z)) (by omega), fun _ => ⟨fun z => absurd ((iN_le (a := 400) (by decide) (by omega)).mp z) (by omega), fun _ => ⟨inb_of (by omega) (by decide), ?_⟩⟩⟩
    have hb := h3 _ hq1
    have hc := c27 (X := X) (d := d) (M := M) (c := b q) hb.2
    rw [hq2] at hc
    rw [ix_of (by omega), hb.1, iN_step]
    exact ⟨_, _, hc, fun z => absurd z (by decide), fun _ => ih (by omega) (by omega) (by rw [← enP_go hq1 hq2]; exact he)⟩
theorem c30 {X : Cx} {d : Nat} {M : Mem} {b : Nat → Nat} {n p : Nat} (h : TpC M b n) (hp : p ≤ n) : CC X (d + 2) 30 [vR 3 0, vI (iN p)] M (some (vI (iN (enP isDc b n p)))) M := by
  obtain ⟨h1, h2, h3⟩ := h
  refine e30 (w30_0 ?_)
  refine enP_ind (P := isDc) (b := b) (n := n) (C := fun q => p ≤ q → q ≤ n → enP isDc b n q = enP isDc b n p → V X (d + 2) 30 2 [some (vR 3 0), none, some (vI (iN q))] [] M (fun r' M' => r' = some (vI (iN (enP isDc b n p))) ∧ M' = M)) (fun q hq hpq hqn he => w30_2 ?_) (fun q hq1 hq2 ih hpq hqn he => w30_2 ?_) p (Nat.le_refl _) hp rfl
  · rw [enP_st hq] at he
    subst he
    by_cases hqn2 : enP isDc b n p < n
    · refine ⟨fun z => absurd ((iN_le (by omega) (by omega)).mp (h2 ▸ z)) (by omega), fun _ => ⟨fun z => absurd ((iN_le (a := 400) (by decide) (by omega)).mp z) (by omega), fun _ => ⟨inb_of (by omega) (by decide), ?_⟩⟩⟩
      have hb := h3 _ hqn2
      have hc := c28 (X := X) (d := d) (M := M) (c := b (enP isDc b n p)) hb.2
      rw [show isDc (b (enP isDc b n p)) = false by
        cases hh : isDc (b (enP isDc b n p)) with
        | false => rfl
        | true => exact absurd ⟨hqn2, hh⟩ hq] at hc
      rw [ix_of (by omega), hb.1]
      exact ⟨_, _, hc, fun _ => ⟨rfl, rfl⟩, fun z => absurd rfl z⟩
    · refine ⟨fun _ => ⟨rfl, rfl⟩, fun z => absurd ?_ z⟩
      rw [h2]
      exact (iN_le (by omega) (by omega)).mpr (by omega)
  · refine ⟨fun z => absurd ((iN_le (by omega) (by omega)).mp (h2 ▸ z)) (by omega), fun _ => ⟨fun z => absurd ((iN_le (a := 400) (by decide) (by omega)).mp z) (by omega), fun _ => ⟨inb_of (by omega) (by decide), ?_⟩⟩⟩
    have hb := h3 _ hq1
    have hc := c28 (X := X) (d := d) (M := M) (c := b q) hb.2
    rw [hq2] at hc
    rw [ix_of (by omega), hb.1, iN_step]
    exact ⟨_, _, hc, fun z => absurd z (by decide), fun _ => ih (by omega) (by omega) (by rw [← enP_go hq1 hq2]; exact he)⟩
theorem c31 {X : Cx} {d : Nat} {M : Mem} {b : Nat → Nat} {n s e : Nat} (h : TpC M b n) (hse : s ≤ e) (he : e ≤ n) (h4 : e - s ≤ 4) (hd : ∀ j, s ≤ j → j < e → isDc (b j) = true) : CC X (d + 1) 31 [vR 3 0, vI (iN s), vI (iN e)] M (some (vI (iN (nmV b s (e - s))))) M := by
  obtain ⟨h1, h2, h3⟩ := h
  refine e31 (w31_0 ?_)
  refine for_up (P := fun j => V X (d + 1) 31 5 [some (vR 3 0), none, some (vI (iN e)), some (vI (iN (nmV b s j))), some (vI (iN (s + j)))] [] M _) (n := e - s) (fun j hj hP => w31_5 ?_) (w31_5 ?_)
  · refine ⟨fun z => absurd ((iN_le (by omega) (by omega)).mp z) (by omega), fun _ => ⟨fun z => absurd ((iN_le (a := 400) (by decide) (by omega)).mp z) (by omega), fun _ => ⟨inb_of (by omega) (by decide), ?_⟩⟩⟩
    have hdj := hd (s + j) (by omega) (by omega)
    simp only [isDc, Bool.and_eq_true, decide_eq_true_eq] at hdj
    rw [ix_of (by omega), (h3 _ (by omega)).1, iN_step]
    have e1 : iN (nmV b s j) * 10 + iN (b (s + j)) - 48 = iN (nmV b s (j + 1)) := by
      rw [iN_lit 10, iN_mul, iN_add, iN_lit 48, iN_sub (by omega)]
      show _ = iN (nmV b s j * 10 + (b (s + j) - 48))
      congr 1
      omega
    rw [e1]
    exact hP
  · exact ⟨fun _ => ⟨rfl, rfl⟩, fun z => absurd ((iN_le (by omega) (by omega)).mpr (by omega)) z⟩
