theorem gTry_s (q all x e : Int32) (t : Nat) : gTry q all x e (t + 1) = if x < iN (3 - t) then none else if (all ^^^ (x % 4)) = ((x - iN (3 - t)) % 4) then some (if q = 0 then e else iN (3 - t)) else gTry q all x e t := rfl
theorem c142_in {X : Cx} {d : Nat} {M : Mem} {q all x e : Int32} {Q : Option Vl → Mem → Prop} (hno : V X (d + 1) 142 53 [some (vR 2 0), some (vI q), some (vI all), some (vI (e + 1)), none, none, none] [] M Q ∨ ∃ r, gTry q all x e 3 = some r) : ∀ t : Nat, t ≤ 3 → (∀ r, gTry q all x e t = some r → Q (some (vI r)) M) → (gTry q all x e t = none → V X (d + 1) 142 53 [some (vR 2 0), some (vI q), some (vI all), some (vI (e + 1)), none, none, none] [] M Q) → V X (d + 1) 142 85 [some (vR 2 0), some (vI q), some (vI all), some (vI e), some (vI x), some (vI ((x % 4) ^^^ all)), some (vI (iN (4 - t)))] [] M Q
  | 0, _, _, hn => w142_85 ⟨fun _ => hn rfl, fun z => absurd (by decide) z⟩
  | t + 1, ht, hs, hn => by
    rw [show 4 - (t + 1) = 3 - t by omega]
    rw [gTry_s] at hs hn
    refine w142_85 ⟨fun z => absurd ((iN_lt (a := 3) (by decide) (by omega)).mp z) (by omega), fun _ => ⟨fun z => hn (if_pos z), fun z => ⟨by decide, fun y => ?_, fun y => ?_⟩⟩⟩
    · have hne : ¬ (all ^^^ (x % 4)) = ((x - iN (3 - t)) % 4) := fun w => y (by rw [← w, Int32.xor_comm])
      rw [if_neg z, if_neg hne] at hs hn
      rw [iN_step, show 3 - t + 1 = 4 - t by omega]
      exact c142_in hno t (by omega) hs hn
    · have heq : (all ^^^ (x % 4)) = ((x - iN (3 - t)) % 4) := by rw [y, Int32.xor_comm]
      rw [if_neg z, if_pos heq] at hs
      exact ⟨fun w => by have := hs _ rfl; rwa [if_neg w] at this, fun w => by have := hs _ rfl; rwa [if_pos w] at this⟩
theorem c142_out {X : Cx} {d : Nat} {M : Mem} {q all : Int32} {n : Nat} {Q : Option Vl → Mem → Prop} (hn : n ≤ 8) (h : M.1 20 0 6 = iN n) : ∀ t : Nat, t ≤ n → Q (some (vI (gDoor (TC M 0) q all n t))) M → V X (d + 3) 142 53 [some (vR 2 0), some (vI q), some (vI all), some (vI (iN (n - t))), none, none, none] [] M Q
  | 0, _, hQ => by
    refine w142_53 ⟨fun _ => hQ, fun z => absurd ?_ z⟩
    rw [h]
    exact (iN_le (by omega) (by omega)).mpr (by omega)
  | t + 1, ht, hQ => by
    have hd : has (iN (n - (t + 1))) (M.1 20 0 6) 8 = true := by
      simp only [has, Bool.and_eq_true, decide_eq_true_eq]
      rw [h]
      exact ⟨⟨iN_nn (by omega), (iN_lt (by omega) (by omega)).mpr (by omega)⟩, (iN_lt (b := 8) (by omega) (by decide)).mpr (by omega)⟩
    have c := c65 (X := X) (d := d) (M := M) (a := 0) (p := iN (n - (t + 1)))
    rw [if_pos hd, ix_of (by omega)] at c
    refine w142_53 ⟨fun z => absurd ((iN_le (by omega) (by omega)).mp (h ▸ z)) (by omega), fun _ => ⟨_, _, c, by decide, ?_⟩⟩
    have hQ : Q (some (vI (match gTry q all (acres (TC M 0) (n - (t + 1))) (iN (n - (t + 1))) 3 with | some r => r | none => gDoor (TC M 0) q all n t))) M := hQ
    have e1 : iN (n - (t + 1)) + 1 = iN (n - t) := by rw [iN_step, show n - (t + 1) + 1 = n - t by omega]
    cases hg : gTry q all (acres (TC M 0) (n - (t + 1))) (iN (n - (t + 1))) 3 with
    | none =>
      rw [hg] at hQ
      have ih := c142_out (X := X) (d := d) hn h t (by omega) hQ
      rw [← e1] at ih
      exact c142_in (Or.inl ih) 3 (Nat.le_refl 3) (fun r hr => by rw [hg] at hr; cases hr) (fun _ => ih)
    | some r =>
      rw [hg] at hQ
      exact c142_in (Or.inr ⟨r, hg⟩) 3 (Nat.le_refl 3) (fun r' hr => by rw [hg] at hr; cases hr; exact hQ) (fun z => by rw [hg] at z; cases z)
theorem c142 {X : Cx} {d : Nat} {M : Mem} {q : Int32} {n : Nat} (hn : n ≤ 8) (h : M.1 20 0 6 = iN n) (hq : inR q 0 1 = true) : CC X (d + 3) 142 [vR 2 0, vI q] M (some (vI (gDoor (TC M 0) q (gAll (TC M 0) n) n n))) M := by
  refine e142 (w142_0 ⟨_, _, c146, bI_if1 (fun _ => ?_) (fun z => by rw [hq] at z; cases z)⟩)
  refine for_up (P := fun j => V X (d + 3) 142 15 [some (vR 2 0), some (vI q), some (vI (gAll (TC M 0) j)), some (vI (iN j)), none, none, none] [] M _) (n := n) (fun j hj hP => ?_) ?_
  · have hd : has (iN j) (M.1 20 0 6) 8 = true := by
      simp only [has, Bool.and_eq_true, decide_eq_true_eq]
      rw [h]
      exact ⟨⟨iN_nn (by omega), (iN_lt (by omega) (by omega)).mpr (by omega)⟩, (iN_lt (b := 8) (by omega) (by decide)).mpr (by omega)⟩
    have c := c65 (X := X) (d := d) (M := M) (a := 0) (p := iN j)
    rw [if_pos hd, ix_of (by omega)] at c
    refine w142_15 ⟨fun z => absurd ((iN_le (by omega) (by omega)).mp (h ▸ z)) (by omega), fun _ => ⟨_, _, c, by decide, ?_⟩⟩
    rw [iN_step]
    exact hP
  · refine w142_15 ⟨fun _ => ⟨fun z => ?_, fun z => ⟨?_, rfl⟩⟩, fun z => absurd ?_ z⟩
    · have := c142_out (X := X) (d := d) (M := M) (q := q) (all := gAll (TC M 0) n) (Q := fun r' M' => r' = some (vI (gDoor (TC M 0) q (gAll (TC M 0) n) n n)) ∧ M' = M) hn h n (Nat.le_refl n) ⟨rfl, rfl⟩
      rw [Nat.sub_self] at this
      exact this
    · rw [z, gDoor_0]
    · rw [h]
      exact (iN_le (by omega) (by omega)).mpr (Nat.le_refl n)
theorem c271_in {X : Cx} {d : Nat} {M : Mem} {q all x e : Int32} {Q : Option Vl → Mem → Prop} : ∀ t : Nat, t ≤ 3 → (∀ r, gTry q all x e t = some r → Q (some (vI r)) M) → (gTry q all x e t = none → V X (d + 1) 271 45 [some (vR 100 0), some (vI q), some (vI all), some (vI (e + 1)), none, none] [] M Q) → V X (d + 1) 271 67 [some (vR 100 0), some (vI q), some (vI all), some (vI e), some (vI x), some (vI (iN (4 - t)))] [] M Q
  | 0, _, _, hn => w271_67 ⟨fun _ => hn rfl, fun z => absurd (by decide) z⟩
  | t + 1, ht, hs, hn => by
    rw [show 4 - (t + 1) = 3 - t by omega]
    rw [gTry_s] at hs hn
    refine w271_67 ⟨fun z => absurd ((iN_lt (a := 3) (by decide) (by omega)).mp z) (by omega), fun _ => ⟨fun z => hn (if_pos z), fun z => ⟨by decide, by decide, fun y => ?_, fun y => ?_⟩⟩⟩
    · rw [if_neg z, if_neg y] at hs hn
      rw [iN_step, show 3 - t + 1 = 4 - t by omega]
      exact c271_in t (by omega) hs hn
    · rw [if_neg z, if_pos y] at hs
      exact ⟨fun w => by have := hs _ rfl; rwa [if_neg w] at this, fun w => by have := hs _ rfl; rwa [if_pos w] at this⟩
theorem c271_out {X : Cx} {d : Nat} {M : Mem} {q all : Int32} {n : Nat} {Q : Option Vl → Mem → Prop} (hn : n ≤ 8) (h : M.1 101 0 230 = iN n) : ∀ t : Nat, t ≤ n → Q (some (vI (gDoor (TM M) q all n t))) M → V X (d + 3) 271 45 [some (vR 100 0), some (vI q), some (vI all), some (vI (iN (n - t))), none, none] [] M Q
  | 0, _, hQ => by
    refine w271_45 ⟨inb_l (by decide) (by decide), fun _ => hQ, fun z => absurd ?_ z⟩
    rw [show ix 230 = 230 from ix_l (by decide), h]
    exact (iN_le (by omega) (by omega)).mpr (by omega)
  | t + 1, ht, hQ => by
    refine w271_45 ⟨inb_l (by decide) (by decide), fun z => ?_, fun _ => ⟨_, _, c231 (by omega), ?_⟩⟩
    · rw [show ix 230 = 230 from ix_l (by decide), h] at z
      exact absurd ((iN_le (by omega) (by omega)).mp z) (by omega)
    · have hQ : Q (some (vI (match gTry q all (acres (TM M) (n - (t + 1))) (iN (n - (t + 1))) 3 with | some r => r | none => gDoor (TM M) q all n t))) M := hQ
      have e1 : iN (n - (t + 1)) + 1 = iN (n - t) := by rw [iN_step, show n - (t + 1) + 1 = n - t by omega]
      refine c271_in 3 (Nat.le_refl 3) (fun r hr => ?_) (fun hr => ?_)
      · rw [hr] at hQ
        exact hQ
      · rw [hr] at hQ
        rw [e1]
        exact c271_out hn h t (by omega) hQ
theorem c271 {X : Cx} {d : Nat} {M : Mem} {q : Int32} {n : Nat} (hn : n ≤ 8) (h : M.1 101 0 230 = iN n) (hq : inR q 0 1 = true) : CC X (d + 3) 271 [vR 100 0, vI q] M (some (vI (gDoor (TM M) q (gAll (TM M) n) n n))) M := by
  refine e271 (w271_0 ⟨_, _, c151, bI_if1 (fun _ => ?_) (fun z => by rw [hq] at z; cases z)⟩)
  refine for_up (P := fun j => V X (d + 3) 271 15 [some (vR 100 0), some (vI q), some (vI (gAll (TM M) j)), some (vI (iN j)), none, none] [] M _) (n := n) (fun j hj hP => ?_) ?_
  · refine w271_15 ⟨inb_l (by decide) (by decide), fun z => ?_, fun _ => ⟨_, _, c231 (by omega), by decide, ?_⟩⟩
    · rw [show ix 230 = 230 from ix_l (by decide), h] at z
      exact absurd ((iN_le (by omega) (by omega)).mp z) (by omega)
    · rw [iN_step]
      exact hP
  · refine w271_15 ⟨inb_l (by decide) (by decide), fun _ => ?_, fun z => absurd ?_ z⟩
    · have := c271_out (X := X) (d := d) (M := M) (q := q) (all := gAll (TM M) n) (Q := fun r' M' => r' = some (vI (gDoor (TM M) q (gAll (TM M) n) n n)) ∧ M' = M) hn h n (Nat.le_refl n) ⟨rfl, rfl⟩
      rw [Nat.sub_self] at this
      exact this
    · rw [show ix 230 = 230 from ix_l (by decide), h]
      exact (iN_le (by omega) (by omega)).mpr (Nat.le_refl n)
/-- game, both -/
theorem op142 {X : Cx} {d : Nat} {M : Mem} {q : Int32} (h : LandI M) : ∃ (x : Int32), CC X (d + 3) 142 [vR 2 0, vI q] M (some (vI x)) M ∧ CC X (d + 3) 271 [vR 100 0, vI q] M (some (vI x)) M := by
  obtain ⟨hT, hc, -⟩ := h
  obtain ⟨-, ⟨n, hn, n1, n2⟩, -⟩ := land_n hT hc
  by_cases hq : inR q 0 1 = true
  · have c := c142 (X := X) (d := d) hn n1 hq
    rw [hT] at c
    exact ⟨_, c, c271 hn n2 hq⟩
  · have hq : inR q 0 1 = false := by simpa using hq
    exact ⟨-1, e142 (w142_0 ⟨_, _, c146, bI_if1 (fun z => by rw [hq] at z; cases z) (fun _ => ⟨rfl, rfl⟩)⟩), e271 (w271_0 ⟨_, _, c151, bI_if1 (fun z => by rw [hq] at z; cases z) (fun _ => ⟨rfl, rfl⟩)⟩)⟩
/-! stones as bits -/
def stoD (g : Nat → Int32) : Nat → Int32
  | 0 => 0
  | j + 1 => stoD g j ||| (g j <<< (iN j &&& 31))
theorem c69 {X : Cx} {d : Nat} {M : Mem} {a : Nat} : CC X (d + 1) 69 [vR 20 a] M (some (vI (stoD (M.1 23 a) 8))) M := by
  refine e69 (w69_0 ?_)
  refine for_up (P := fun j => V X (d + 1) 69 4 [some (vR 20 a), some (vI (stoD (M.1 23 a) j)), some (vI (iN j))] [] M _) (n := 8) (fun j hj hP => ?_) ?_
  · refine w69_4 ⟨fun z => absurd ((iN_le (a := 8) (by decide) (by omega)).mp z) (by omega), fun _ => ⟨inb_of (by omega) (by decide), ?_⟩⟩
    rw [ix_of (by omega), iN_step]
    exact hP
  · exact w69_4 ⟨fun _ => ⟨rfl, rfl⟩, fun z => absurd ((iN_le (a := 8) (b := 8) (by decide) (by decide)).mpr (Nat.le_refl 8)) z⟩
theorem stoD_congr {g h : Nat → Int32} : ∀ {n : Nat}, (∀ j, j < n → g j = h j) → stoD g n = stoD h n
  | 0, _ => rfl
  | n + 1, hh => by
    show stoD g n ||| _ = stoD h n ||| _
    rw [stoD_congr (fun j hj => hh j (by omega)), hh n (by omega)]
set_option maxRecDepth 100000 in
theorem stoD_bits : ∀ k : Nat, k < 256 → stoD (fun j => (iN k >>> iN j) &&& 1) 8 = iN k := by decide +kernel
/-- what look needs beside the land -/
def LookI (M : Mem) : Prop := LandI M ∧ M.1 30 0 0 = M.1 101 0 5 ∧ M.1 40 0 0 = M.1 101 0 232 ∧ M.1 50 0 0 = M.1 101 0 233 ∧ M.1 50 0 1 = M.1 101 0 234 ∧ M.1 50 0 2 = M.1 101 0 235 ∧ M.1 8 0 0 = M.1 100 0 4
theorem sel {p q : Int32} {A B : Prop} (h1 : p = q → A) (h2 : ¬ p = q → B) : (p = q → A) ∧ (¬ p = q → B) := ⟨h1, h2⟩
/-- look, both -/
theorem op145 {X : Cx} {d : Nat} {M : Mem} {q : Int32} (h : LookI M) : ∃ (x : Int32), CC X (d + 2) 145 [vR 2 0, vI q] M (some (vI x)) M ∧ CC X (d + 2) 273 [vR 100 0, vI q] M (some (vI x)) M := by
  obtain ⟨⟨hT, hc, k, hk, hw6⟩, h8, h10, h11, h12, h13, h14⟩ := h
  have hk : k < 256 := by
    obtain ⟨-, ⟨n, hn, he⟩, -⟩ := hc
    rw [he, ix_of (by omega)] at hk
    exact Nat.lt_of_lt_of_le hk (Nat.pow_le_pow_right (by decide) hn)
  have s : stoD (M.1 23 0) 8 = M.1 101 0 6 := by
    rw [hw6, ← stoD_bits k hk]
    refine stoD_congr (fun j hj => ?_)
    rw [land_c hT (by simp [okC]; omega), ← hw6]
    exact TW_rd (by simp [okC]; omega)
  have z : ∀ j, j < 8 → M.1 20 0 j = mcell (M.1 101 0) 20 j := fun j hj => by
    rw [land_c hT (by simp [okC]; omega)]
    exact TW_rd (by simp [okC]; omega)
  have i : ∀ n : Nat, n < 2129 → inb (iN n) 2129 := fun n hn => inb_of hn (by decide)
  have x : ∀ n : Nat, n < 2129 → ix (iN n) = n := fun n hn => ix_of (by omega)
  by_cases q0 : q = 0
  · subst q0; exact ⟨_, e145 (w145_0 ⟨fun _ => ⟨rfl, rfl⟩, fun y => absurd rfl y⟩), e273 (w273_0 ⟨fun _ => ⟨i 229 (by decide), congrArg (fun v => some (vI v)) ((congrArg (M.1 101 0) (x 229 (by decide))).trans (z 5 (by decide)).symm), rfl⟩, fun y => absurd rfl y⟩)⟩
  by_cases q1 : q = 1
  · subst q1; exact ⟨_, e145 (w145_0 ⟨fun y => absurd y q0, fun _ => ⟨fun _ => ⟨rfl, rfl⟩, fun y => absurd rfl y⟩⟩), e273 (w273_0 ⟨fun y => absurd y q0, fun _ => ⟨fun _ => ⟨i 230 (by decide), congrArg (fun v => some (vI v)) ((congrArg (M.1 101 0) (x 230 (by decide))).trans (z 6 (by decide)).symm), rfl⟩, fun y => absurd rfl y⟩⟩)⟩
  by_cases q2 : q = 2
  · subst q2; exact ⟨_, e145 (w145_0 ⟨fun y => absurd y q0, fun _ => ⟨fun y => absurd y q1, fun _ => ⟨fun _ => ⟨rfl, rfl⟩, fun y => absurd rfl y⟩⟩⟩), e273 (w273_0 ⟨fun y => absurd y q0, fun _ => ⟨fun y => absurd y q1, fun _ => ⟨fun _ => ⟨i 231 (by decide), congrArg (fun v => some (vI v)) ((congrArg (M.1 101 0) (x 231 (by decide))).trans (z 7 (by decide)).symm), rfl⟩, fun y => absurd rfl y⟩⟩⟩)⟩
  by_cases q3 : q = 3
  · subst q3; exact ⟨_, e145 (w145_0 ⟨fun y => absurd y q0, fun _ => ⟨fun y => absurd y q1, fun _ => ⟨fun y => absurd y q2, fun _ => ⟨fun _ => ⟨rfl, rfl⟩, fun y => absurd rfl y⟩⟩⟩⟩), e273 (w273_0 ⟨fun y => absurd y q0, fun _ => ⟨fun y => absurd y q1, fun _ => ⟨fun y => absurd y q2, fun _ => ⟨fun _ => ⟨i 0 (by decide), congrArg (fun v => some (vI v)) ((congrArg (M.1 101 0) (x 0 (by decide))).trans (z 1 (by decide)).symm), rfl⟩, fun y => absurd rfl y⟩⟩⟩⟩)⟩
  by_cases q4 : q = 4
  · subst q4; exact ⟨_, e145 (w145_0 ⟨fun y => absurd y q0, fun _ => ⟨fun y => absurd y q1, fun _ => ⟨fun y => absurd y q2, fun _ => ⟨fun y => absurd y q3, fun _ => ⟨fun _ => ⟨rfl, rfl⟩, fun y => absurd rfl y⟩⟩⟩⟩⟩), e273 (w273_0 ⟨fun y => absurd y q0, fun _ => ⟨fun y => absurd y q1, fun _ => ⟨fun y => absurd y q2, fun _ => ⟨fun y => absurd y q3, fun _ => ⟨fun _ => ⟨i 1 (by decide), congrArg (fun v => some (vI v)) ((congrArg (M.1 101 0) (x 1 (by decide))).trans (z 2 (by decide)).symm), rfl⟩, fun y => absurd rfl y⟩⟩⟩⟩⟩)⟩
  have front : ∀ {v w : Int32} {A B A2 B2 : Prop}, True := fun {_ _ _ _ _ _} => trivial
  by_cases q5 : q = 5
  · subst q5; exact ⟨_, e145 (w145_0 ⟨fun y => absurd y q0, fun _ => ⟨fun y => absurd y q1, fun _ => ⟨fun y => absurd y q2, fun _ => ⟨fun y => absurd y q3, fun _ => ⟨fun y => absurd y q4, fun _ => ⟨fun _ => ⟨rfl, rfl⟩, fun y => absurd rfl y⟩⟩⟩⟩⟩⟩), e273 (w273_0 ⟨fun y => absurd y q0, fun _ => ⟨fun y => absurd y q1, fun _ => ⟨fun y => absurd y q2, fun _ => ⟨fun y => absurd y q3, fun _ => ⟨fun y => absurd y q4, fun _ => ⟨fun _ => ⟨i 2 (by decide), congrArg (fun v => some (vI v)) ((congrArg (M.1 101 0) (x 2 (by decide))).trans (z 3 (by decide)).symm), rfl⟩, fun y => absurd rfl y⟩⟩⟩⟩⟩⟩)⟩
  by_cases q6 : q = 6
  · subst q6; exact ⟨_, e145 (w145_0 ⟨fun y => absurd y q0, fun _ => ⟨fun y => absurd y q1, fun _ => ⟨fun y => absurd y q2, fun _ => ⟨fun y => absurd y q3, fun _ => ⟨fun y => absurd y q4, fun _ => ⟨fun y => absurd y q5, fun _ => ⟨fun _ => ⟨rfl, rfl⟩, fun y => absurd rfl y⟩⟩⟩⟩⟩⟩⟩), e273 (w273_0 ⟨fun y => absurd y q0, fun _ => ⟨fun y => absurd y q1, fun _ => ⟨fun y => absurd y q2, fun _ => ⟨fun y => absurd y q3, fun _ => ⟨fun y => absurd y q4, fun _ => ⟨fun y => absurd y q5, fun _ => ⟨fun _ => ⟨i 3 (by decide), congrArg (fun v => some (vI v)) ((congrArg (M.1 101 0) (x 3 (by decide))).trans (z 4 (by decide)).symm), rfl⟩, fun y => absurd rfl y⟩⟩⟩⟩⟩⟩⟩)⟩
  by_cases q7 : q = 7
  · subst q7; exact ⟨_, e145 (w145_0 ⟨fun y => absurd y q0, fun _ => ⟨fun y => absurd y q1, fun _ => ⟨fun y => absurd y q2, fun _ => ⟨fun y => absurd y q3, fun _ => ⟨fun y => absurd y q4, fun _ => ⟨fun y => absurd y q5, fun _ => ⟨fun y => absurd y q6, fun _ => ⟨fun _ => ⟨_, _, c69, rfl, rfl⟩, fun y => absurd rfl y⟩⟩⟩⟩⟩⟩⟩⟩), e273 (w273_0 ⟨fun y => absurd y q0, fun _ => ⟨fun y => absurd y q1, fun _ => ⟨fun y => absurd y q2, fun _ => ⟨fun y => absurd y q3, fun _ => ⟨fun y => absurd y q4, fun _ => ⟨fun y => absurd y q5, fun _ => ⟨fun y => absurd y q6, fun _ => ⟨fun _ => ⟨i 6 (by decide), congrArg (fun v => some (vI v)) ((congrArg (M.1 101 0) (x 6 (by decide))).trans s.symm), rfl⟩, fun y => absurd rfl y⟩⟩⟩⟩⟩⟩⟩⟩)⟩
  by_cases q8 : q = 8
  · subst q8; exact ⟨_, e145 (w145_0 ⟨fun y => absurd y q0, fun _ => ⟨fun y => absurd y q1, fun _ => ⟨fun y => absurd y q2, fun _ => ⟨fun y => absurd y q3, fun _ => ⟨fun y => absurd y q4, fun _ => ⟨fun y => absurd y q5, fun _ => ⟨fun y => absurd y q6, fun _ => ⟨fun y => absurd y q7, fun _ => ⟨fun _ => ⟨rfl, rfl⟩, fun y => absurd rfl y⟩⟩⟩⟩⟩⟩⟩⟩⟩), e273 (w273_0 ⟨fun y => absurd y q0, fun _ => ⟨fun y => absurd y q1, fun _ => ⟨fun y => absurd y q2, fun _ => ⟨fun y => absurd y q3, fun _ => ⟨fun y => absurd y q4, fun _ => ⟨fun y => absurd y q5, fun _ => ⟨fun y => absurd y q6, fun _ => ⟨fun y => absurd y q7, fun _ => ⟨fun _ => ⟨i 5 (by decide), congrArg (fun v => some (vI v)) ((congrArg (M.1 101 0) (x 5 (by decide))).trans h8.symm), rfl⟩, fun y => absurd rfl y⟩⟩⟩⟩⟩⟩⟩⟩⟩)⟩
  by_cases q9 : q = 9
  · subst q9; exact ⟨_, e145 (w145_0 ⟨fun y => absurd y q0, fun _ => ⟨fun y => absurd y q1, fun _ => ⟨fun y => absurd y q2, fun _ => ⟨fun y => absurd y q3, fun _ => ⟨fun y => absurd y q4, fun _ => ⟨fun y => absurd y q5, fun _ => ⟨fun y => absurd y q6, fun _ => ⟨fun y => absurd y q7, fun _ => ⟨fun y => absurd y q8, fun _ => ⟨fun _ => ⟨rfl, rfl⟩, fun y => absurd rfl y⟩⟩⟩⟩⟩⟩⟩⟩⟩⟩), e273 (w273_0 ⟨fun y => absurd y q0, fun _ => ⟨fun y => absurd y q1, fun _ => ⟨fun y => absurd y q2, fun _ => ⟨fun y => absurd y q3, fun _ => ⟨fun y => absurd y q4, fun _ => ⟨fun y => absurd y q5, fun _ => ⟨fun y => absurd y q6, fun _ => ⟨fun y => absurd y q7, fun _ => ⟨fun y => absurd y q8, fun _ => ⟨fun _ => ⟨i 4 (by decide), congrArg (fun v => some (vI v)) ((congrArg (M.1 101 0) (x 4 (by decide))).trans (z 0 (by decide)).symm), rfl⟩, fun y => absurd rfl y⟩⟩⟩⟩⟩⟩⟩⟩⟩⟩)⟩
  by_cases q10 : q = 10
  · subst q10; exact ⟨_, e145 (w145_0 ⟨fun y => absurd y q0, fun _ => ⟨fun y => absurd y q1, fun _ => ⟨fun y => absurd y q2, fun _ => ⟨fun y => absurd y q3, fun _ => ⟨fun y => absurd y q4, fun _ => ⟨fun y => absurd y q5, fun _ => ⟨fun y => absurd y q6, fun _ => ⟨fun y => absurd y q7, fun _ => ⟨fun y => absurd y q8, fun _ => ⟨fun y => absurd y q9, fun _ => ⟨fun _ => ⟨rfl, rfl⟩, fun y => absurd rfl y⟩⟩⟩⟩⟩⟩⟩⟩⟩⟩⟩), e273 (w273_0 ⟨fun y => absurd y q0, fun _ => ⟨fun y => absurd y q1, fun _ => ⟨fun y => absurd y q2, fun _ => ⟨fun y => absurd y q3, fun _ => ⟨fun y => absurd y q4, fun _ => ⟨fun y => absurd y q5, fun _ => ⟨fun y => absurd y q6, fun _ => ⟨fun y => absurd y q7, fun _ => ⟨fun y => absurd y q8, fun _ => ⟨fun y => absurd y q9, fun _ => ⟨fun _ => ⟨i 232 (by decide), congrArg (fun v => some (vI v)) ((congrArg (M.1 101 0) (x 232 (by decide))).trans h10.symm), rfl⟩, fun y => absurd rfl y⟩⟩⟩⟩⟩⟩⟩⟩⟩⟩⟩)⟩
  by_cases q11 : q = 11
  · subst q11; exact ⟨_, e145 (w145_0 ⟨fun y => absurd y q0, fun _ => ⟨fun y => absurd y q1, fun _ => ⟨fun y => absurd y q2, fun _ => ⟨fun y => absurd y q3, fun _ => ⟨fun y => absurd y q4, fun _ => ⟨fun y => absurd y q5, fun _ => ⟨fun y => absurd y q6, fun _ => ⟨fun y => absurd y q7, fun _ => ⟨fun y => absurd y q8, fun _ => ⟨fun y => absurd y q9, fun _ => ⟨fun y => absurd y q10, fun _ => ⟨fun _ => ⟨rfl, rfl⟩, fun y => absurd rfl y⟩⟩⟩⟩⟩⟩⟩⟩⟩⟩⟩⟩), e273 (w273_0 ⟨fun y => absurd y q0, fun _ => ⟨fun y => absurd y q1, fun _ => ⟨fun y => absurd y q2, fun _ => ⟨fun y => absurd y q3, fun _ => ⟨fun y => absurd y q4, fun _ => ⟨fun y => absurd y q5, fun _ => ⟨fun y => absurd y q6, fun _ => ⟨fun y => absurd y q7, fun _ => ⟨fun y => absurd y q8, fun _ => ⟨fun y => absurd y q9, fun _ => ⟨fun y => absurd y q10, fun _ => ⟨fun _ => ⟨i 233 (by decide), congrArg (fun v => some (vI v)) ((congrArg (M.1 101 0) (x 233 (by decide))).trans h11.symm), rfl⟩, fun y => absurd rfl y⟩⟩⟩⟩⟩⟩⟩⟩⟩⟩⟩⟩)⟩
  by_cases q12 : q = 12
  · subst q12; exact ⟨_, e145 (w145_0 ⟨fun y => absurd y q0, fun _ => ⟨fun y => absurd y q1, fun _ => ⟨fun y => absurd y q2, fun _ => ⟨fun y => absurd y q3, fun _ => ⟨fun y => absurd y q4, fun _ => ⟨fun y => absurd y q5, fun _ => ⟨fun y => absurd y q6, fun _ => ⟨fun y => absurd y q7, fun _ => ⟨fun y => absurd y q8, fun _ => ⟨fun y => absurd y q9, fun _ => ⟨fun y => absurd y q10, fun _ => ⟨fun y => absurd y q11, fun _ => ⟨fun _ => ⟨rfl, rfl⟩, fun y => absurd rfl y⟩⟩⟩⟩⟩⟩⟩⟩⟩⟩⟩⟩⟩), e273 (w273_0 ⟨fun y => absurd y q0, fun _ => ⟨fun y => absurd y q1, fun _ => ⟨fun y => absurd y q2, fun _ => ⟨fun y => absurd y q3, fun _ => ⟨fun y => absurd y q4, fun _ => ⟨fun y => absurd y q5, fun _ => ⟨fun y => absurd y q6, fun _ => ⟨fun y => absurd y q7, fun _ => ⟨fun y => absurd y q8, fun _ => ⟨fun y => absurd y q9, fun _ => ⟨fun y => absurd y q10, fun _ => ⟨fun y => absurd y q11, fun _ => ⟨fun _ => ⟨i 234 (by decide), congrArg (fun v => some (vI v)) ((congrArg (M.1 101 0) (x 234 (by decide))).trans h12.symm), rfl⟩, fun y => absurd rfl y⟩⟩⟩⟩⟩⟩⟩⟩⟩⟩⟩⟩⟩)⟩
  by_cases q13 : q = 13
  · subst q13; exact ⟨_, e145 (w145_0 ⟨fun y => absurd y q0, fun _ => ⟨fun y => absurd y q1, fun _ => ⟨fun y => absurd y q2, fun _ => ⟨fun y => absurd y q3, fun _ => ⟨fun y => absurd y q4, fun _ => ⟨fun y => absurd y q5, fun _ => ⟨fun y => absurd y q6, fun _ => ⟨fun y => absurd y q7, fun _ => ⟨fun y => absurd y q8, fun _ => ⟨fun y => absurd y q9, fun _ => ⟨fun y => absurd y q10, fun _ => ⟨fun y => absurd y q11, fun _ => ⟨fun y => absurd y q12, fun _ => ⟨fun _ => ⟨rfl, rfl⟩, fun y => absurd rfl y⟩⟩⟩⟩⟩⟩⟩⟩⟩⟩⟩⟩⟩⟩), e273 (w273_0 ⟨fun y => absurd y q0, fun _ => ⟨fun y => absurd y q1, fun _ => ⟨fun y => absurd y q2, fun _ => ⟨fun y => absurd y q3, fun _ => ⟨fun y => absurd y q4, fun _ => ⟨fun y => absurd y q5, fun _ => ⟨fun y => absurd y q6, fun _ => ⟨fun y => absurd y q7, fun _ => ⟨fun y => absurd y q8, fun _ => ⟨fun y => absurd y q9, fun _ => ⟨fun y => absurd y q10, fun _ => ⟨fun y => absurd y q11, fun _ => ⟨fun y => absurd y q12, fun _ => ⟨fun _ => ⟨i 235 (by decide), congrArg (fun v => some (vI v)) ((congrArg (M.1 101 0) (x 235 (by decide))).trans h13.symm), rfl⟩, fun y => absurd rfl y⟩⟩⟩⟩⟩⟩⟩⟩⟩⟩⟩⟩⟩⟩)⟩
  by_cases q14 : q = 14
  · subst q14; exact ⟨_, e145 (w145_0 ⟨fun y => absurd y q0, fun _ => ⟨fun y => absurd y q1, fun _ => ⟨fun y => absurd y q2, fun _ => ⟨fun y => absurd y q3, fun _ => ⟨fun y => absurd y q4, fun _ => ⟨fun y => absurd y q5, fun _ => ⟨fun y => absurd y q6, fun _ => ⟨fun y => absurd y q7, fun _ => ⟨fun y => absurd y q8, fun _ => ⟨fun y => absurd y q9, fun _ => ⟨fun y => absurd y q10, fun _ => ⟨fun y => absurd y q11, fun _ => ⟨fun y => absurd y q12, fun _ => ⟨fun y => absurd y q13, fun _ => ⟨fun _ => ⟨rfl, rfl⟩, fun y => absurd rfl y⟩⟩⟩⟩⟩⟩⟩⟩⟩⟩⟩⟩⟩⟩⟩), e273 (w273_0 ⟨fun y => absurd y q0, fun _ => ⟨fun y => absurd y q1, fun _ => ⟨fun y => absurd y q2, fun _ => ⟨fun y => absurd y q3, fun _ => ⟨fun y => absurd y q4, fun _ => ⟨fun y => absurd y q5, fun _ => ⟨fun y => absurd y q6, fun _ => ⟨fun y => absurd y q7, fun _ => ⟨fun y => absurd y q8, fun _ => ⟨fun y => absurd y q9, fun _ => ⟨fun y => absurd y q10, fun _ => ⟨fun y => absurd y q11, fun _ => ⟨fun y => absurd y q12, fun _ => ⟨fun y => absurd y q13, fun _ => ⟨fun _ => ⟨by rw [h14], rfl⟩, fun y => absurd rfl y⟩⟩⟩⟩⟩⟩⟩⟩⟩⟩⟩⟩⟩⟩⟩)⟩
  exact ⟨-1, e145 (w145_0 ⟨fun y => absurd y q0, fun _ => ⟨fun y => absurd y q1, fun _ => ⟨fun y => absurd y q2, fun _ => ⟨fun y => absurd y q3, fun _ => ⟨fun y => absurd y q4, fun _ => ⟨fun y => absurd y q5, fun _ => ⟨fun y => absurd y q6, fun _ => ⟨fun y => absurd y q7, fun _ => ⟨fun y => absurd y q8, fun _ => ⟨fun y => absurd y q9, fun _ => ⟨fun y => absurd y q10, fun _ => ⟨fun y => absurd y q11, fun _ => ⟨fun y => absurd y q12, fun _ => ⟨fun y => absurd y q13, fun _ => ⟨fun y => absurd y q14, fun _ => ⟨rfl, rfl⟩⟩⟩⟩⟩⟩⟩⟩⟩⟩⟩⟩⟩⟩⟩⟩), e273 (w273_0 ⟨fun y => absurd y q0, fun _ => ⟨fun y => absurd y q1, fun _ => ⟨fun y => absurd y q2, fun _ => ⟨fun y => absurd y q3, fun _ => ⟨fun y => absurd y q4, fun _ => ⟨fun y => absurd y q5, fun _ => ⟨fun y => absurd y q6, fun _ => ⟨fun y => absurd y q7, fun _ => ⟨fun y => absurd y q8, fun _ => ⟨fun y => absurd y q9, fun _ => ⟨fun y => absurd y q10, fun _ => ⟨fun y => absurd y q11, fun _ => ⟨fun y => absurd y q12, fun _ => ⟨fun y => absurd y q13, fun _ => ⟨fun y => absurd y q14, fun _ => ⟨rfl, rfl⟩⟩⟩⟩⟩⟩⟩⟩⟩⟩⟩⟩⟩⟩⟩⟩)⟩
