/-! line, both: callers by when they come, then by their place -/
theorem pk_i : ∀ v : Nat, v < 10 → ∀ k : Nat, k < 1024 → (k ||| 2 ^ v) < 1024 ∧ (iN k ||| ((1 : Int32) <<< (iN v &&& 31)) = iN (k ||| 2 ^ v)) ∧ ((iN k >>> (iN v &&& 31)) &&& 1 = if Nat.testBit k v = true then 1 else 0) := by decide +kernel
theorem max_c (a b : Int32) : (if a < b then b else a) = gtr a b := by unfold gtr; grind
def fmS (fr : Nat → Int32) : Nat → Nat
  | 0 => 0
  | s + 1 => if fr (fmS fr s) ≤ fr s then fmS fr s else s
theorem fmS_lt {fr : Nat → Int32} : ∀ {s : Nat}, 0 < s → fmS fr s < s
  | 1, _ => by
    unfold fmS
    split
    · exact (show (0 : Nat) < 1 by decide)
    · omega
  | s + 2, _ => by
    have := fmS_lt (fr := fr) (s := s + 1) (by omega)
    unfold fmS
    split
    · omega
    · omega
theorem fmS_1 {fr : Nat → Int32} : fmS fr 1 = 0 := if_pos (Int32.le_refl _)
theorem fmS_ext {fr fr2 : Nat → Int32} {N : Nat} (h : ∀ j, j < N → fr2 j = fr j) : ∀ {s : Nat}, s ≤ N → fmS fr2 s = fmS fr s
  | 0, _ => rfl
  | s + 1, hs => by
    have ih := fmS_ext h (s := s) (by omega)
    have hl : fmS fr s < N := by
      rcases s with _ | s
      · exact hs
      · have := fmS_lt (fr := fr) (s := s + 1) (by omega)
        omega
    show (if fr2 (fmS fr2 s) ≤ fr2 s then fmS fr2 s else s) = (if fr (fmS fr s) ≤ fr s then fmS fr s else s)
    rw [ih, h _ hl, h _ (by omega)]
abbrev Ls : Type := (Nat → Int32) × Int32 × Int32
def lnS (sc : Nat) (f g : Nat → Int32) (i : Nat) (s : Ls) : Ls :=
  (upd s.1 (fmS s.1 sc) (gtr (s.1 (fmS s.1 sc)) (f i) + g i), s.2.1 + (gtr (s.1 (fmS s.1 sc)) (f i) - f i), gtr s.2.2 (gtr (s.1 (fmS s.1 sc)) (f i) + g i))
def lI (sc : Nat) (f g : Nat → Int32) (cm : Nat → Nat) (n c : Nat) : Nat → Ls → Ls
  | 0, s => s
  | t + 1, s => lI sc f g cm n c t (if cm (n - (t + 1)) = c then lnS sc f g (n - (t + 1)) s else s)
def lO (sc : Nat) (f g : Nat → Int32) (cm : Nat → Nat) (n : Nat) : Nat → Ls → Ls
  | 0, s => s
  | t + 1, s => lO sc f g cm n t (lI sc f g cm n (99 - t) n s)
theorem c80 {X : Cx} {d : Nat} {M : Mem} {a sc : Nat} {fr : Nat → Int32} (h1 : 1 ≤ sc) (h2 : sc ≤ 4) (hf : ∀ j, j < 4 → M.1 74 a j = fr j) : CC X (d + 1) 80 [vR 70 a, vI (iN sc)] M (some (vI (iN (fmS fr sc)))) M := by
  refine e80 (w80_0 ?_)
  have run : ∀ (t s : Nat), s + t = sc → 1 ≤ s → V X (d + 1) 80 4 [some (vR 70 a), some (vI (iN sc)), some (vI (iN (fmS fr s))), some (vI (iN s))] [] M (fun r' M' => r' = some (vI (iN (fmS fr sc))) ∧ M' = M) := by
    intro t
    induction t with
    | zero =>
      intro s h3 h4
      have : s = sc := h3
      subst this
      exact w80_4 ⟨fun _ => ⟨rfl, rfl⟩, fun z => absurd ((iN_le (by omega) (by omega)).mpr (Nat.le_refl _)) z⟩
    | succ t ih =>
      intro s h3 h4
      have hl := fmS_lt (fr := fr) (s := s) (by omega)
      refine w80_4 ⟨fun z => absurd ((iN_le (by omega) (by omega)).mp z) (by omega), fun _ => ⟨fun z => absurd ((iN_le (a := 4) (by decide) (by omega)).mp z) (by omega), fun _ => ⟨inb_of (by omega) (by decide), inb_of (by omega) (by decide), ?_⟩⟩⟩
      rw [ix_of (by omega), ix_of (by omega), hf _ (by omega), hf _ (by omega), iN_step]
      have hP := ih (s + 1) (by omega) (by omega)
      refine ⟨fun z => ?_, fun z => ?_⟩
      · have e : fmS fr (s + 1) = fmS fr s := if_pos z
        rw [e] at hP
        exact hP
      · have e : fmS fr (s + 1) = s := if_neg z
        rw [e] at hP
        exact hP
  have := run (sc - 1) 1 (by omega) (by omega)
  rw [fmS_1] at this
  exact this
/-- who is next: the callers below j, who isn't served by k -/
def nS (k : Nat) (cm : Nat → Nat) : Nat → Nat × Nat
  | 0 => (0, 1000000)
  | j + 1 => if Nat.testBit k j = true then nS k cm j else if (nS k cm j).2 ≤ cm j then nS k cm j else (j, cm j)
theorem nS_le {k : Nat} {cm : Nat → Nat} (h : ∀ j, j < 10 → cm j ≤ 99) : ∀ {j : Nat}, j ≤ 10 → (nS k cm j).1 < 10 ∧ (nS k cm j).2 ≤ 1000000
  | 0, _ => (show (0 : Nat) < 10 ∧ (1000000 : Nat) ≤ 1000000 by decide)
  | j + 1, hj => by
    have ih := nS_le (k := k) h (j := j) (by omega)
    unfold nS
    split
    · exact ih
    · split
      · exact ih
      · have := h j (by omega)
        exact ⟨(show j < 10 by omega), (show cm j ≤ 1000000 by omega)⟩
theorem nS_is {k n i : Nat} {cm : Nat → Nat} (hc : ∀ j, j < 10 → cm j ≤ 99) (hn : n ≤ 10) (hi : i < n) (h0 : Nat.testBit k i = false) (hm : ∀ j, j < n → Nat.testBit k j = false → cm i < cm j ∨ (cm i = cm j ∧ i ≤ j)) : (nS k cm n).1 = i := by
  have low : ∀ j, j ≤ i → cm i < (nS k cm j).2 := by
    intro j
    induction j with
    | zero =>
      intro _
      have := hc i (by omega)
      show cm i < 1000000
      omega
    | succ j ih =>
      intro hj
      have h1 := ih (by omega)
      unfold nS
      split
      · exact h1
      · rename_i hb
        split
        · exact h1
        · show cm i < cm j
          have := hm j (by omega) (by simpa using hb)
          omega
  have high : ∀ t, i + 1 + t ≤ n → nS k cm (i + 1 + t) = (i, cm i) := by
    intro t
    induction t with
    | zero =>
      intro _
      have h1 := low i (Nat.le_refl _)
      show (if Nat.testBit k i = true then nS k cm i else if (nS k cm i).2 ≤ cm i then nS k cm i else (i, cm i)) = (i, cm i)
      rw [if_neg (by rw [h0]; decide), if_neg (by omega)]
    | succ t ih =>
      intro ht
      have h1 := ih (by omega)
      show (if Nat.testBit k (i + 1 + t) = true then nS k cm (i + 1 + t) else if (nS k cm (i + 1 + t)).2 ≤ cm (i + 1 + t) then nS k cm (i + 1 + t) else (i + 1 + t, cm (i + 1 + t))) = (i, cm i)
      rw [h1]
      by_cases hb : Nat.testBit k (i + 1 + t) = true
      · rw [if_pos hb]
      · rw [if_neg hb]
        have := hm (i + 1 + t) (by omega) (by simpa using hb)
        rw [if_pos (show cm i ≤ cm (i + 1 + t) by omega)]
  have := high (n - (i + 1)) (by omega)
  rw [show i + 1 + (n - (i + 1)) = n by omega] at this
  rw [this]
theorem c79 {X : Cx} {d : Nat} {M : Mem} {a n k : Nat} {cm : Nat → Nat} (hn : n ≤ 10) (h0 : M.1 83 a 0 = iN n) (hc : ∀ j, j < n → M.1 84 a j = iN (cm j)) (hcm : ∀ j, j < 10 → cm j ≤ 99) (hk : k < 1024) : CC X (d + 1) 79 [vR 70 a, vI (iN k)] M (some (vI (iN (nS k cm n).1))) M := by
  refine e79 (w79_0 ?_)
  refine for_up (P := fun j => V X (d + 1) 79 8 [some (vR 70 a), some (vI (iN k)), some (vI (iN (nS k cm j).1)), some (vI (iN (nS k cm j).2)), some (vI (iN j))] [] M _) (n := n) (fun j hj hP => ?_) ?_
  · have hl := nS_le (k := k) hcm (j := j) (by omega)
    have hcj := hcm j (by omega)
    have b := (pk_i j (by omega) k hk).2.2
    refine w79_8 ⟨fun z => absurd ((iN_le (by omega) (by omega)).mp (h0 ▸ z)) (by omega), fun _ => ⟨fun z => absurd ((iN_le (a := 10) (by decide) (by omega)).mp z) (by omega), fun _ => ?_⟩⟩
    rw [b, ix_of (by omega), hc j hj, iN_step]
    by_cases hb : Nat.testBit k j = true
    · have e : nS k cm (j + 1) = nS k cm j := if_pos hb
      rw [e] at hP
      rw [if_pos hb]
      exact ⟨fun _ => hP, fun z => absurd z (by decide)⟩
    · rw [if_neg hb]
      refine ⟨fun z => absurd rfl z, fun _ => ⟨inb_of (by omega) (by decide), fun z => ?_, fun z => ⟨inb_of (by omega) (by decide), ?_⟩⟩⟩
      · have e : nS k cm (j + 1) = nS k cm j := (if_neg hb).trans (if_pos ((iN_le (by omega) (by omega)).mp z))
        rw [e] at hP
        exact hP
      · have e : nS k cm (j + 1) = (j, cm j) := (if_neg hb).trans (if_neg (fun h => z ((iN_le (by omega) (by omega)).mpr h)))
        rw [e] at hP
        exact hP
  · refine w79_8 ⟨fun _ => ⟨rfl, rfl⟩, fun z => absurd ?_ z⟩
    rw [h0]
    exact (iN_le (by omega) (by omega)).mpr (Nat.le_refl _)
/-- how many are served -/
def cnK (k : Nat) : Nat → Nat
  | 0 => 0
  | j + 1 => if Nat.testBit k j = true then cnK k j + 1 else cnK k j
theorem cnK_le {k : Nat} : ∀ {n : Nat}, cnK k n ≤ n
  | 0 => Nat.le_refl _
  | n + 1 => by
    have := cnK_le (k := k) (n := n)
    unfold cnK
    split <;> omega
theorem cnK_same {k k2 : Nat} : ∀ {n : Nat}, (∀ j, j < n → (Nat.testBit k2 j = true ↔ Nat.testBit k j = true)) → cnK k2 n = cnK k n
  | 0, _ => rfl
  | n + 1, h => by
    have h1 := cnK_same (n := n) (fun j hj => h j (by omega))
    have h2 := h n (by omega)
    unfold cnK
    by_cases hb : Nat.testBit k n = true
    · rw [if_pos hb, if_pos (h2.mpr hb), h1]
    · rw [if_neg hb, if_neg (fun z => hb (h2.mp z)), h1]
theorem cnK_add {k i : Nat} (h0 : Nat.testBit k i = false) : ∀ {n : Nat}, i < n → cnK (k ||| 2 ^ i) n = cnK k n + 1
  | n + 1, h => by
    by_cases hi : i = n
    · subst hi
      have h1 : cnK (k ||| 2 ^ i) i = cnK k i := cnK_same (fun j hj => by
        rw [tb_or]
        exact ⟨fun z => z.elim id (fun y => absurd y (by omega)), Or.inl⟩)
      show (if Nat.testBit (k ||| 2 ^ i) i = true then cnK (k ||| 2 ^ i) i + 1 else cnK (k ||| 2 ^ i) i) = (if Nat.testBit k i = true then cnK k i + 1 else cnK k i) + 1
      rw [if_pos (tb_or.mpr (Or.inr rfl)), if_neg (by rw [h0]; decide), h1]
    · have h1 := cnK_add h0 (n := n) (by omega)
      show (if Nat.testBit (k ||| 2 ^ i) n = true then cnK (k ||| 2 ^ i) n + 1 else cnK (k ||| 2 ^ i) n) = (if Nat.testBit k n = true then cnK k n + 1 else cnK k n) + 1
      by_cases hb : Nat.testBit k n = true
      · rw [if_pos hb, if_pos (tb_or.mpr (Or.inl hb)), h1]
      · rw [if_neg hb, if_neg (fun z => (tb_or.mp z).elim hb (fun y => absurd y (by omega))), h1]
theorem cnK_all {k : Nat} : ∀ {n : Nat}, (∀ j, j < n → Nat.testBit k j = true) → cnK k n = n
  | 0, _ => rfl
  | n + 1, h => by
    unfold cnK
    rw [if_pos (h n (by omega)), cnK_all (fun j hj => h j (by omega))]
theorem cnK_lt {k i n : Nat} (hi : i < n) (h0 : Nat.testBit k i = false) : cnK k n < n := by
  have h1 := cnK_add h0 hi
  have h2 := cnK_le (k := k ||| 2 ^ i) (n := n)
  omega
/-- the class on the way of the reference's loops -/
theorem c78_in {X : Cx} {d a n sc c : Nat} {cm : Nat → Nat} {f g : Nat → Int32} {x2 : Int32} (hn : n ≤ 10) (h1 : 1 ≤ sc) (h2 : sc ≤ 4) (hcm : ∀ j, j < 10 → cm j ≤ 99) (hf : ∀ j, j < n → f j = iN (cm j)) :
    ∀ (t k : Nat) (s : Ls) (M : Mem), t ≤ n → k < 1024 → (∀ j, j < n → (Nat.testBit k j = true ↔ (cm j < c ∨ (cm j = c ∧ j < n - t)))) → (∀ j, j < 4 → M.1 74 a j = s.1 j) → M.1 83 a 0 = iN n → (∀ j, j < n → M.1 84 a j = f j ∧ M.1 85 a j = g j) →
    ∃ (k' : Nat) (M' : Mem), k' < 1024 ∧ (∀ j, j < n → (Nat.testBit k' j = true ↔ cm j < c + 1)) ∧ (∀ j, j < 4 → M'.1 74 a j = (lI sc f g cm n c t s).1 j) ∧ K3 (fun c b _ => c = 74 ∧ b = a) M M' ∧
      ∀ Q : Option Vl → Mem → Prop, V X (d + 2) 78 31 [some (vR 70 a), some (vI (iN sc)), some (vI x2), some (vI (lI sc f g cm n c t s).2.1), some (vI (lI sc f g cm n c t s).2.2), some (vI (iN k')), some (vI (iN (cnK k' n))), none, none, none] [] M' Q → V X (d + 2) 78 31 [some (vR 70 a), some (vI (iN sc)), some (vI x2), some (vI s.2.1), some (vI s.2.2), some (vI (iN k)), some (vI (iN (cnK k n))), none, none, none] [] M Q
  | 0, k, s, M, ht, hk, hS, hfr, h83, h84 => by
    refine ⟨k, M, hk, fun j hj => ?_, hfr, k3_refl, fun Q hQ => hQ⟩
    rw [hS j hj]
    omega
  | t + 1, k, s, M, ht, hk, hS, hfr, h83, h84 => by
    obtain ⟨i, hi⟩ : ∃ i, i = n - (t + 1) := ⟨_, rfl⟩
    have es : lI sc f g cm n c (t + 1) s = lI sc f g cm n c t (if cm i = c then lnS sc f g i s else s) := by rw [hi]; rfl
    by_cases hci : cm i = c
    · have h0 : Nat.testBit k i = false := by
        cases hb : Nat.testBit k i with
        | false => rfl
        | true =>
          have := (hS i (by omega)).mp hb
          omega
      have hnx : (nS k cm n).1 = i := nS_is hcm hn (by omega) h0 (fun j hj hb => by
        have := hS j hj
        rw [hb] at this
        have h3 : ¬ (cm j < c ∨ (cm j = c ∧ j < n - (t + 1))) := fun z => absurd (this.mpr z) (by decide)
        omega)
      have cn := c79 (X := X) (d := d) (M := M) (a := a) (n := n) (k := k) (cm := cm) hn h83 (fun j hj => by rw [(h84 j hj).1, hf j hj]) hcm hk
      rw [hnx] at cn
      have cf := c80 (X := X) (d := d) (M := M) (a := a) (sc := sc) (fr := s.1) h1 h2 hfr
      have hb4 := fmS_lt (fr := s.1) (s := sc) (by omega)
      obtain ⟨b, hb⟩ : ∃ b, b = fmS s.1 sc := ⟨_, rfl⟩
      rw [← hb] at cf hb4
      have pk := pk_i i (by omega) k hk
      rw [es, if_pos hci]
      have eL : lnS sc f g i s = (upd s.1 b (gtr (s.1 b) (f i) + g i), s.2.1 + (gtr (s.1 b) (f i) - f i), gtr s.2.2 (gtr (s.1 b) (f i) + g i)) := by rw [hb]; rfl
      obtain ⟨k', M', r1, r2, r3, r4, r5⟩ := c78_in (X := X) (d := d) (a := a) (c := c) (g := g) (x2 := x2) hn h1 h2 hcm hf t (k ||| 2 ^ i) (lnS sc f g i s) (st M 74 a b (gtr (s.1 b) (f i) + g i)) (by omega) pk.1 (fun j hj => by
        rw [tb_or, hS j hj]
        by_cases hji : j = i
        · subst hji
          omega
        · omega) (fun j hj => by
        rw [eL, st_eq]
        show upd (M.1 74 a) b _ j = upd s.1 b _ j
        unfold upd
        split
        · rfl
        · exact hfr j hj) (by rw [st_ne3 (fun z => absurd z.1 (by decide))]; exact h83) (fun j hj => by rw [st_ne3 (fun z => absurd z.1 (by decide)), st_ne3 (fun z => absurd z.1 (by decide))]; exact h84 j hj)
      refine ⟨k', M', r1, r2, r3, k3_trans (k3_st ⟨rfl, rfl⟩) r4, fun Q hQ => w78_31 ?_⟩
      have hlt := cnK_lt (k := k) (n := n) (i := i) (by omega) h0
      have fin := r5 Q hQ
      rw [cnK_add h0 (by omega), eL] at fin
      refine ⟨fun z => absurd ((iN_le (by omega) (by omega)).mp (h83 ▸ z)) (by omega), fun _ => ⟨fun z => absurd ((iN_le (a := 10) (by decide) (by omega)).mp z) (by omega), fun _ => ⟨_, _, cn, _, _, cf, inb_of (by omega) (by decide), inb_of (by omega) (by decide), inb_of (by omega) (by decide), inb_of (by omega) (by decide), inb_of (by omega) (by decide), ?_⟩⟩⟩
      rw [ix_of (show b < 2147483648 by omega), ix_of (show i < 2147483648 by omega), hfr b (by omega), (h84 i (by omega)).1, (h84 i (by omega)).2, max_c, pk.2.1, iN_step]
      rintro M3 rfl
      refine ⟨inb_of (by omega) (by decide), ?_⟩
      rw [st_at, max_c]
      exact fin
    · rw [es, if_neg hci]
      exact c78_in (X := X) (d := d) (a := a) (c := c) (g := g) (x2 := x2) hn h1 h2 hcm hf t k s M (by omega) hk (fun j hj => by
        rw [hS j hj]
        by_cases hji : j = i
        · subst hji
          omega
        · omega) hfr h83 h84
theorem c78_out {X : Cx} {d a n sc : Nat} {cm : Nat → Nat} {f g : Nat → Int32} {x2 : Int32} (hn : n ≤ 10) (h1 : 1 ≤ sc) (h2 : sc ≤ 4) (hcm : ∀ j, j < 10 → cm j ≤ 99) (hf : ∀ j, j < n → f j = iN (cm j)) :
    ∀ (t k : Nat) (s : Ls) (M : Mem), t ≤ 100 → k < 1024 → (∀ j, j < n → (Nat.testBit k j = true ↔ cm j < 100 - t)) → (∀ j, j < 4 → M.1 74 a j = s.1 j) → M.1 83 a 0 = iN n → (∀ j, j < n → M.1 84 a j = f j ∧ M.1 85 a j = g j) →
    ∃ (M' : Mem), K3 (fun c b _ => c = 74 ∧ b = a) M M' ∧
      ∀ Q : Option Vl → Mem → Prop, Q (some (vI (if x2 = 0 then (lO sc f g cm n t s).2.2 else (lO sc f g cm n t s).2.1))) M' → V X (d + 2) 78 31 [some (vR 70 a), some (vI (iN sc)), some (vI x2), some (vI s.2.1), some (vI s.2.2), some (vI (iN k)), some (vI (iN (cnK k n))), none, none, none] [] M Q
  | 0, k, s, M, ht, hk, hS, hfr, h83, h84 => by
    have e : cnK k n = n := cnK_all (fun j hj => (hS j hj).mpr (by have := hcm j (by omega); omega))
    refine ⟨M, k3_refl, fun Q hQ => w78_31 ⟨fun _ => ⟨fun z => ?_, fun z => ?_⟩, fun z => absurd ?_ z⟩⟩
    · rw [if_pos z] at hQ
      exact hQ
    · rw [if_neg z] at hQ
      exact hQ
    · rw [h83, e]
      exact (iN_le (by omega) (by omega)).mpr (Nat.le_refl _)
  | t + 1, k, s, M, ht, hk, hS, hfr, h83, h84 => by
    obtain ⟨k', M1, r1, r2, r3, r4, r5⟩ := c78_in (X := X) (d := d) (a := a) (c := 99 - t) (g := g) (x2 := x2) hn h1 h2 hcm hf n k s M (Nat.le_refl _) hk (fun j hj => by rw [hS j hj]; omega) hfr h83 h84
    obtain ⟨M2, q1, q2⟩ := c78_out (X := X) (d := d) (a := a) (g := g) (x2 := x2) hn h1 h2 hcm hf t k' (lI sc f g cm n (99 - t) n s) M1 (by omega) r1 (fun j hj => by rw [r2 j hj]; omega) r3 (by rw [r4 83 a 0 (by omega)]; exact h83) (fun j hj => by rw [r4 84 a j (by omega), r4 85 a j (by omega)]; exact h84 j hj)
    exact ⟨M2, k3_trans r4 q1, fun Q hQ => r5 Q (q2 Q hQ)⟩
theorem c78 {X : Cx} {d : Nat} {M : Mem} {a n sc : Nat} {cm : Nat → Nat} {f g : Nat → Int32} {x2 : Int32} (hn : n ≤ 10) (h1 : 1 ≤ sc) (h2 : sc ≤ 4) (hcm : ∀ j, j < 10 → cm j ≤ 99) (hf : ∀ j, j < n → f j = iN (cm j)) (h83 : M.1 83 a 0 = iN n) (h84 : ∀ j, j < n → M.1 84 a j = f j ∧ M.1 85 a j = g j) : ∃ M', CC X (d + 2) 78 [vR 70 a, vI (iN sc), vI x2] M (some (vI (if x2 = 0 then (lO sc f g cm n 100 (fun _ => 0, 0, 0)).2.2 else (lO sc f g cm n 100 (fun _ => 0, 0, 0)).2.1))) M' ∧ K3 (fun c b _ => c = 74 ∧ b = a) M M' := by
  obtain ⟨M1, ⟨i1, i2⟩, hV⟩ := for_fwd (n := 4) (M := M)
    (I := fun t Mt => (∀ j, j < t → Mt.1 74 a j = 0) ∧ K3 (fun c b _ => c = 74 ∧ b = a) M Mt)
    (St := fun t Mt Q => V X (d + 2) 78 2 [some (vR 70 a), some (vI (iN sc)), some (vI x2), some (vI (iN t)), none, none, none, none, none, none] [] Mt Q)
    (by
      rintro t Mt ht ⟨g1, g2⟩
      refine ⟨st Mt 74 a t 0, ⟨fun j hj => ?_, k3_trans g2 (k3_st ⟨rfl, rfl⟩)⟩, fun Q hQ => w78_2 ?_⟩
      · by_cases hjt : j = t
        · subst hjt
          rw [st_at]
        · rw [st_ne3 (fun z => hjt z.2.2)]
          exact g1 j (by omega)
      · simp only [forall_eq, true_implies, false_implies, not_true_eq_false, not_false_eq_true, and_true, true_and, and_self, isB0, isB1, bI_t0, bI_f0, i10_, i20_, i01_, i02_, i12_, i21_, show (4 ≤ iN t) = False from nle_ (a := 4) (by decide) (by omega) ht, show inb (iN t) 4 from inb_of ht (by decide), ix_of (show t < 2147483648 by omega), iN_step]
        exact hQ)
    ⟨fun j hj => absurd hj (by omega), k3_refl⟩
  obtain ⟨M2, q1, q2⟩ := c78_out (X := X) (d := d) (a := a) (g := g) (x2 := x2) hn h1 h2 hcm hf 100 0 (fun _ => 0, 0, 0) M1 (Nat.le_refl _) (by decide) (fun j hj => by rw [Nat.zero_testBit]; exact ⟨fun z => absurd z (by decide), fun z => absurd z (by omega)⟩) i1 (by rw [i2 83 a 0 (by omega)]; exact h83) (fun j hj => by rw [i2 84 a j (by omega), i2 85 a j (by omega)]; exact h84 j hj)
  have e0 : cnK 0 n = 0 := by
    have : ∀ m, cnK 0 m = 0 := by
      intro m
      induction m with
      | zero => rfl
      | succ m ih =>
        unfold cnK
        rw [if_neg (by rw [Nat.zero_testBit]; decide), ih]
    exact this n
  rw [e0] at q2
  refine ⟨M2, e78 (w78_0 (hV _ (w78_2 ⟨fun _ => q2 _ ⟨rfl, rfl⟩, fun z => absurd (by decide) z⟩))), k3_trans i2 q1⟩
theorem c254 {X : Cx} {d : Nat} {M : Mem} {sc i n : Nat} {s : Ls} {f g : Nat → Int32} (hn : n ≤ 10) (hi : i < n) (h1 : 1 ≤ sc) (h2 : sc ≤ 4) (hfr : ∀ j, j < 4 → M.1 115 0 j = s.1 j) (hw : ∀ j, j < n → M.1 101 0 (577 + 2 * j) = f j ∧ M.1 101 0 (577 + 2 * j + 1) = g j) : CC X (d + 2) 254 [vR 100 0, vI (iN i), vI (iN sc)] M (some (vI (gtr (s.1 (fmS s.1 sc)) (f i) + g i))) (st M 115 0 (fmS s.1 sc) (gtr (s.1 (fmS s.1 sc)) (f i) + g i)) := by
  refine e254 (w254_0 ?_)
  have e1 : 577 + (2 * iN i) = iN (577 + 2 * i) := by simp only [iN_lit, iN_mul, iN_add]
  have e2 : iN (577 + 2 * i) + 1 = iN (577 + 2 * i + 1) := by simp only [iN_lit, iN_add]
  have hb4 := fmS_lt (fr := s.1) (s := sc) (by omega)
  have run : ∀ (t q : Nat), q + t = sc → 1 ≤ q → V X (d + 2) 254 5 [some (vR 100 0), some (vI (iN i)), some (vI (iN sc)), some (vI (iN (fmS s.1 q))), some (vI (iN q))] [] M (fun r' M' => r' = some (vI (gtr (s.1 (fmS s.1 sc)) (f i) + g i)) ∧ M' = st M 115 0 (fmS s.1 sc) (gtr (s.1 (fmS s.1 sc)) (f i) + g i)) := by
    intro t
    induction t with
    | zero =>
      intro q h3 h4
      have : q = sc := h3
      subst this
      refine w254_5 ⟨fun _ => ⟨inb_of (by omega) (by decide), ?_⟩, fun z => absurd ((iN_le (by omega) (by omega)).mpr (Nat.le_refl _)) z⟩
      rw [e1, e2, ix_of (show 577 + 2 * i < 2147483648 by omega), ix_of (show 577 + 2 * i + 1 < 2147483648 by omega), ix_of (show fmS s.1 q < 2147483648 by omega), hfr _ (by omega), (hw i hi).1]
      refine ⟨inb_of (by omega) (by decide), _, _, c153, inb_of (by omega) (by decide), inb_of (by omega) (by decide), ?_⟩
      rw [(hw i hi).2]
      rintro M2 rfl
      exact ⟨inb_of (by omega) (by decide), by rw [st_at], rfl⟩
    | succ t ih =>
      intro q h3 h4
      have hl := fmS_lt (fr := s.1) (s := q) (by omega)
      refine w254_5 ⟨fun z => absurd ((iN_le (by omega) (by omega)).mp z) (by omega), fun _ => ⟨inb_of (by omega) (by decide), inb_of (by omega) (by decide), ?_⟩⟩
      rw [ix_of (by omega), ix_of (by omega), hfr _ (by omega), hfr _ (by omega), iN_step]
      have hP := ih (q + 1) (by omega) (by omega)
      refine ⟨fun z => ?_, fun z => ?_⟩
      · have e : fmS s.1 (q + 1) = fmS s.1 q := if_pos z
        rw [e] at hP
        exact hP
      · have e : fmS s.1 (q + 1) = q := if_neg z
        rw [e] at hP
        exact hP
  have := run (sc - 1) 1 (by omega) (by omega)
  rw [fmS_1] at this
  exact this
theorem c255_in {X : Cx} {d n sc c : Nat} {cm : Nat → Nat} {f g : Nat → Int32} {x2 : Int32} (hn : n ≤ 10) (h1 : 1 ≤ sc) (h2 : sc ≤ 4) (hcm : ∀ j, j < 10 → cm j ≤ 99) (hf : ∀ j, j < n → f j = iN (cm j)) (hc : c ≤ 99) :
    ∀ (t : Nat) (s : Ls) (M : Mem), t ≤ n → (∀ j, j < 4 → M.1 115 0 j = s.1 j) → M.1 101 0 237 = iN n → (∀ j, j < n → M.1 101 0 (577 + 2 * j) = f j ∧ M.1 101 0 (577 + 2 * j + 1) = g j) →
    ∃ (M' : Mem), (∀ j, j < 4 → M'.1 115 0 j = (lI sc f g cm n c t s).1 j) ∧ K3 (fun c b _ => c = 115 ∧ b = 0) M M' ∧
      ∀ Q : Option Vl → Mem → Prop, V X (d + 3) 255 48 [some (vR 100 0), some (vI (iN sc)), some (vI x2), some (vI (lI sc f g cm n c t s).2.1), some (vI (lI sc f g cm n c t s).2.2), some (vI (iN (c + 1))), none, none] [] M' Q → V X (d + 3) 255 58 [some (vR 100 0), some (vI (iN sc)), some (vI x2), some (vI s.2.1), some (vI s.2.2), some (vI (iN c)), some (vI (iN (n - t))), none] [] M Q
  | 0, s, M, ht, hfr, h237, hw => by
    refine ⟨M, hfr, k3_refl, fun Q hQ => w255_58 ⟨inb_l (by decide) (by decide), fun _ => by rw [iN_step]; exact hQ, fun z => absurd ?_ z⟩⟩
    rw [show ix 237 = 237 from ix_l (by decide), h237]
    exact (iN_le (by omega) (by omega)).mpr (by omega)
  | t + 1, s, M, ht, hfr, h237, hw => by
    obtain ⟨i, hi⟩ : ∃ i, i = n - (t + 1) := ⟨_, rfl⟩
    have es : lI sc f g cm n c (t + 1) s = lI sc f g cm n c t (if cm i = c then lnS sc f g i s else s) := by rw [hi]; rfl
    have e1 : 577 + (2 * iN i) = iN (577 + 2 * i) := by simp only [iN_lit, iN_mul, iN_add]
    have e2 : iN (577 + 2 * i) + 1 = iN (577 + 2 * i + 1) := by simp only [iN_lit, iN_add]
    have f237 : ∀ {Q : Prop}, Q → (M.1 101 0 (ix 237) ≤ iN i → Q) := fun h _ => h
    have x237 : M.1 101 0 (ix 237) = iN n := by rw [show ix 237 = 237 from ix_l (by decide)]; exact h237
    have xw : M.1 101 0 (ix (iN (577 + 2 * i))) = iN (cm i) := by rw [ix_of (by omega), (hw i (by omega)).1, hf i (by omega)]
    have hci99 := hcm i (by omega)
    by_cases hci : cm i = c
    · have cs := c254 (X := X) (d := d) (M := M) (sc := sc) (i := i) (s := s) hn (by omega) h1 h2 hfr hw
      obtain ⟨M', r3, r4, r5⟩ := c255_in (X := X) (d := d) (c := c) (g := g) (x2 := x2) hn h1 h2 hcm hf hc t (lnS sc f g i s) (st M 115 0 (fmS s.1 sc) (gtr (s.1 (fmS s.1 sc)) (f i) + g i)) (by omega) (fun j hj => by
        rw [st_eq]
        show upd (M.1 115 0) _ _ j = upd s.1 _ _ j
        unfold upd
        split
        · rfl
        · exact hfr j hj) (by rw [st_ne3 (fun z => absurd z.1 (by decide))]; exact h237) (fun j hj => by rw [st_ne3 (fun z => absurd z.1 (by decide)), st_ne3 (fun z => absurd z.1 (by decide))]; exact hw j hj)
      rw [es, if_pos hci]
      refine ⟨M', r3, k3_trans (k3_st ⟨rfl, rfl⟩) r4, fun Q hQ => ?_⟩
      rw [← hi]
      refine w255_58 ⟨inb_l (by decide) (by decide), fun z => absurd ((iN_le (by omega) (by omega)).mp (x237 ▸ z)) (by omega), fun _ => ?_⟩
      rw [e1, xw, hci]
      refine ⟨inb_of (by omega) (by decide), fun _ => ⟨_, _, cs, ?_⟩, fun z => absurd rfl z⟩
      rw [e2, ix_of (by omega), st_ne3 (fun z => absurd z.1 (by decide)), (hw i (by omega)).2, iN_step]
      refine ⟨inb_of (by omega) (by decide), _, _, c153, ?_⟩
      have fin := r5 Q hQ
      rw [show n - t = i + 1 by omega] at fin
      have ar : gtr (s.1 (fmS s.1 sc)) (f i) + g i - iN c - g i = gtr (s.1 (fmS s.1 sc)) (f i) - f i := by
        rw [hf i (by omega), hci]
        grind
      rw [ar]
      exact fin
    · obtain ⟨M', r3, r4, r5⟩ := c255_in (X := X) (d := d) (c := c) (g := g) (x2 := x2) hn h1 h2 hcm hf hc t s M (by omega) hfr h237 hw
      rw [es, if_neg hci]
      refine ⟨M', r3, r4, fun Q hQ => ?_⟩
      rw [← hi]
      refine w255_58 ⟨inb_l (by decide) (by decide), fun z => absurd ((iN_le (by omega) (by omega)).mp (x237 ▸ z)) (by omega), fun _ => ?_⟩
      rw [e1, xw]
      refine ⟨inb_of (by omega) (by decide), fun z => absurd ((iN_inj (by omega) (by omega)).mp z) hci, fun _ => ?_⟩
      have fin := r5 Q hQ
      rw [show n - t = i + 1 by omega] at fin
      rw [iN_step]
      exact fin
theorem c255_out {X : Cx} {d n sc : Nat} {cm : Nat → Nat} {f g : Nat → Int32} {x2 : Int32} (hn : n ≤ 10) (h1 : 1 ≤ sc) (h2 : sc ≤ 4) (hcm : ∀ j, j < 10 → cm j ≤ 99) (hf : ∀ j, j < n → f j = iN (cm j)) :
    ∀ (t : Nat) (s : Ls) (M : Mem), t ≤ 100 → (∀ j, j < 4 → M.1 115 0 j = s.1 j) → M.1 101 0 237 = iN n → (∀ j, j < n → M.1 101 0 (577 + 2 * j) = f j ∧ M.1 101 0 (577 + 2 * j + 1) = g j) →
    ∃ (M' : Mem), K3 (fun c b _ => c = 115 ∧ b = 0) M M' ∧
      ∀ Q : Option Vl → Mem → Prop, Q (some (vI (if x2 = 0 then (lO sc f g cm n t s).2.1 else (lO sc f g cm n t s).2.2))) M' → V X (d + 3) 255 48 [some (vR 100 0), some (vI (iN sc)), some (vI x2), some (vI s.2.1), some (vI s.2.2), some (vI (iN (100 - t))), none, none] [] M Q
  | 0, s, M, ht, hfr, h237, hw => by
    refine ⟨M, k3_refl, fun Q hQ => w255_48 ⟨fun _ => ⟨fun z => ?_, fun z => ?_⟩, fun z => absurd (by decide) z⟩⟩
    · rw [if_neg z] at hQ
      exact hQ
    · rw [if_pos z] at hQ
      exact hQ
  | t + 1, s, M, ht, hfr, h237, hw => by
    obtain ⟨M1, r3, r4, r5⟩ := c255_in (X := X) (d := d) (c := 99 - t) (g := g) (x2 := x2) hn h1 h2 hcm hf (by omega) n s M (Nat.le_refl _) hfr h237 hw
    obtain ⟨M2, q1, q2⟩ := c255_out (X := X) (d := d) (g := g) (x2 := x2) hn h1 h2 hcm hf t (lI sc f g cm n (99 - t) n s) M1 (by omega) r3 (by rw [r4 101 0 237 (by omega)]; exact h237) (fun j hj => by rw [r4 101 0 _ (by omega), r4 101 0 _ (by omega)]; exact hw j hj)
    refine ⟨M2, k3_trans r4 q1, fun Q hQ => w255_48 ⟨fun z => absurd ((iN_lt (a := 99) (by decide) (by omega)).mp z) (by omega), fun _ => ?_⟩⟩
    have a1 := q2 Q hQ
    rw [show 100 - t = 99 - t + 1 by omega] at a1
    have a2 := r5 Q a1
    rw [Nat.sub_self] at a2
    rw [show 100 - (t + 1) = 99 - t by omega]
    exact a2
theorem op132 {X : Cx} {d : Nat} {M : Mem} {n : Nat} {v q : Int32} (h : ToldR M 83 0 (M.1 101 0) 237 577 2 10 GC n) : ∃ (x : Int32) (M1 M2 : Mem), CC X (d + 3) 132 [vR 2 0, vI v, vI q] M (some (vI x)) M1 ∧ CC X (d + 3) 255 [vR 100 0, vI v, vI q] M1 (some (vI x)) M2 ∧ K3 (fun c a _ => (c = 74 ∨ c = 115) ∧ a = 0) M M2 := by
  obtain ⟨q1, q2, q3, q4, q5, q6⟩ := h
  have cc := c146 (X := X) (d := d + 1) (M := M) (v := v) (lo := 1) (hi := 4)
  have cr (M1 : Mem) := c151 (X := X) (d := d + 1) (M := M1) (v := v) (lo := 1) (hi := 4)
  have cc2 := c146 (X := X) (d := d + 1) (M := M) (v := q) (lo := 0) (hi := 1)
  have cr2 (M1 : Mem) := c151 (X := X) (d := d + 1) (M := M1) (v := q) (lo := 0) (hi := 1)
  by_cases hv : inR v 1 4 = true
  · rw [hv] at cc cr
    by_cases hq : inR q 0 1 = true
    · rw [hq] at cc2 cr2
      obtain ⟨sc, rfl, hsc⟩ := inR_iN (hi := 4) (by decide) (by
        simp only [inR, Bool.and_eq_true, decide_eq_true_eq] at hv ⊢
        exact ⟨Int32.le_trans (by decide) hv.1, hv.2⟩)
      have hsc1 : 1 ≤ sc := by
        simp only [inR, Bool.and_eq_true, decide_eq_true_eq] at hv
        exact (iN_le (a := 1) (by decide) (by omega)).mp hv.1
      have q01 : q = 0 ∨ q = 1 := by
        obtain ⟨t, rfl, ht⟩ := inR_iN (hi := 1) (by decide) hq
        rcases (show t = 0 ∨ t = 1 by omega) with rfl | rfl
        · exact Or.inl rfl
        · exact Or.inr rfl
      have hex : ∃ cm : Nat → Nat, (∀ j, j < 10 → cm j ≤ 99) ∧ ∀ j, j < n → M.1 84 0 j = iN (cm j) := by
        refine ⟨fun j => if j < n then ix (M.1 84 0 j) else 0, fun j hj => ?_, fun j hj => ?_⟩
        · show (if j < n then ix (M.1 84 0 j) else 0) ≤ 99
          by_cases hjn : j < n
          · have g := q6 j hjn
            rw [Bool.and_eq_true] at g
            obtain ⟨t, e, ht⟩ := inR_iN (hi := 99) (by decide) g.1
            rw [if_pos hjn, show M.1 84 0 j = iN t from e, ix_of (by omega)]
            exact ht
          · rw [if_neg hjn]
            omega
        · have g := q6 j hj
          rw [Bool.and_eq_true] at g
          obtain ⟨t, e, ht⟩ := inR_iN (hi := 99) (by decide) g.1
          have e : M.1 84 0 j = iN t := e
          show M.1 84 0 j = iN (if j < n then ix (M.1 84 0 j) else 0)
          rw [if_pos hj, e, ix_of (by omega)]
      obtain ⟨cm, hcm, hf⟩ := hex
      obtain ⟨M1, a1, a2⟩ := c78 (X := X) (d := d) (M := M) (a := 0) (n := n) (sc := sc) (cm := cm) (f := M.1 84 0) (g := M.1 85 0) (x2 := if q = 0 then 1 else 0) q1 hsc1 hsc hcm hf q2 (fun j hj => ⟨rfl, rfl⟩)
      have w1 : ∀ j, j < n → M.1 101 0 (577 + 2 * j) = M.1 84 0 j ∧ M.1 101 0 (577 + 2 * j + 1) = M.1 85 0 j := fun j hj => ⟨(q4 j hj).symm, (q5 rfl j hj).symm⟩
      obtain ⟨M2, ⟨i1, i2⟩, hV⟩ := for_fwd (n := 4) (M := M1)
        (I := fun t Mt => (∀ j, j < t → Mt.1 115 0 j = 0) ∧ K3 (fun c b _ => c = 115 ∧ b = 0) M1 Mt)
        (St := fun t Mt Q => V X (d + 3) 255 22 [some (vR 100 0), some (vI (iN sc)), some (vI q), some (vI (iN t)), none, none, none, none] [] Mt Q)
        (by
          rintro t Mt ht ⟨g1, g2⟩
          refine ⟨st Mt 115 0 t 0, ⟨fun j hj => ?_, k3_trans g2 (k3_st ⟨rfl, rfl⟩)⟩, fun Q hQ => w255_22 ?_⟩
          · by_cases hjt : j = t
            · subst hjt
              rw [st_at]
            · rw [st_ne3 (fun z => hjt z.2.2)]
              exact g1 j (by omega)
          · simp only [forall_eq, true_implies, false_implies, not_true_eq_false, not_false_eq_true, and_true, true_and, and_self, isB0, isB1, bI_t0, bI_f0, i10_, i20_, i01_, i02_, i12_, i21_, show (4 ≤ iN t) = False from nle_ (a := 4) (by decide) (by omega) ht, show inb (iN t) 4 from inb_of ht (by decide), ix_of (show t < 2147483648 by omega), iN_step]
            exact hQ)
        ⟨fun j hj => absurd hj (by omega), k3_refl⟩
      have w2 : ∀ j, M2.1 101 0 j = M.1 101 0 j := fun j => by rw [i2 101 0 j (by omega), a2 101 0 j (by omega)]
      obtain ⟨M3, b1, b2⟩ := c255_out (X := X) (d := d) (sc := sc) (cm := cm) (f := M.1 84 0) (g := M.1 85 0) (x2 := q) q1 hsc1 hsc hcm hf 100 (fun _ => 0, 0, 0) M2 (Nat.le_refl _) i1 (by rw [w2]; exact q3) (fun j hj => by rw [w2, w2]; exact w1 j hj)
      refine ⟨if q = 0 then (lO sc (M.1 84 0) (M.1 85 0) cm n 100 (fun _ => 0, 0, 0)).2.1 else (lO sc (M.1 84 0) (M.1 85 0) cm n 100 (fun _ => 0, 0, 0)).2.2, M1, M3, e132 (w132_0 ⟨_, _, cc, ?_⟩), e255 (w255_0 ⟨_, _, cr M1, ?_⟩), k3_trans (k3_sub a2 (fun c a j z => by omega)) (k3_trans (k3_sub i2 (fun c a j z => by omega)) (k3_sub b1 (fun c a j z => by omega)))⟩
      · simp only [forall_eq, true_implies, false_implies, not_true_eq_false, not_false_eq_true, and_true, true_and, and_self, isB0, isB1, bI_t0, bI_f0, i10_, i20_, i01_, i02_, i12_, i21_]
        refine ⟨_, _, cc2, ?_⟩
        rcases q01 with rfl | rfl
        · simp only [forall_eq, true_implies, false_implies, not_true_eq_false, not_false_eq_true, and_true, true_and, and_self, isB0, isB1, bI_t0, bI_f0, i10_, i20_, i01_, i02_, i12_, i21_]
          exact ⟨_, _, a1, rfl, rfl⟩
        · simp only [forall_eq, true_implies, false_implies, not_true_eq_false, not_false_eq_true, and_true, true_and, and_self, isB0, isB1, bI_t0, bI_f0, i10_, i20_, i01_, i02_, i12_, i21_]
          exact ⟨_, _, a1, rfl, rfl⟩
      · simp only [forall_eq, true_implies, false_implies, not_true_eq_false, not_false_eq_true, and_true, true_and, and_self, isB0, isB1, bI_t0, bI_f0, i10_, i20_, i01_, i02_, i12_, i21_]
        refine ⟨_, _, cr2 M1, ?_⟩
        simp only [forall_eq, true_implies, false_implies, not_true_eq_false, not_false_eq_true, and_true, true_and, and_self, isB0, isB1, bI_t0, bI_f0, i10_, i20_, i01_, i02_, i12_, i21_]
        exact hV _ (w255_22 ⟨fun _ => b2 _ ⟨rfl, rfl⟩, fun z => absurd (by decide) z⟩)
    · have hq : inR q 0 1 = false := by simpa using hq
      rw [hq] at cc2 cr2
      refine ⟨-1, M, M, e132 (w132_0 ⟨_, _, cc, ?_⟩), e255 (w255_0 ⟨_, _, cr M, ?_⟩), k3_refl⟩
      · simp only [forall_eq, true_implies, false_implies, not_true_eq_false, not_false_eq_true, and_true, true_and, and_self, isB0, isB1, bI_t0, bI_f0, i10_, i20_, i01_, i02_, i12_, i21_]
        refine ⟨_, _, cc2, ?_⟩
        simp only [forall_eq, true_implies, false_implies, not_true_eq_false, not_false_eq_true, and_true, true_and, and_self, isB0, isB1, bI_t0, bI_f0, i10_, i20_, i01_, i02_, i12_, i21_]
      · simp only [forall_eq, true_implies, false_implies, not_true_eq_false, not_false_eq_true, and_true, true_and, and_self, isB0, isB1, bI_t0, bI_f0, i10_, i20_, i01_, i02_, i12_, i21_]
        refine ⟨_, _, cr2 M, ?_⟩
        simp only [forall_eq, true_implies, false_implies, not_true_eq_false, not_false_eq_true, and_true, true_and, and_self, isB0, isB1, bI_t0, bI_f0, i10_, i20_, i01_, i02_, i12_, i21_]
  · have hv : inR v 1 4 = false := by simpa using hv
    rw [hv] at cc cr
    refine ⟨-1, M, M, e132 (w132_0 ⟨_, _, cc, ?_⟩), e255 (w255_0 ⟨_, _, cr M, ?_⟩), k3_refl⟩
    · simp only [forall_eq, true_implies, false_implies, not_true_eq_false, not_false_eq_true, and_true, true_and, and_self, isB0, isB1, bI_t0, bI_f0, i10_, i20_, i01_, i02_, i12_, i21_]
    · simp only [forall_eq, true_implies, false_implies, not_true_eq_false, not_false_eq_true, and_true, true_and, and_self, isB0, isB1, bI_t0, bI_f0, i10_, i20_, i01_, i02_, i12_, i21_]
