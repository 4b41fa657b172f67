/-! the land of a shire, by columns 20 .. 29, as both sides hold it -/
def okC (c j : Nat) : Bool :=
  match c with
  | 20 => decide (j < 8)
  | 21 => decide (j < 10)
  | 22 => decide (j < 10)
  | 23 => decide (j < 8)
  | 24 => decide (j < 80)
  | 25 => decide (j < 12)
  | 26 => decide (j < 12)
  | 27 => decide (j < 12)
  | 28 => decide (j < 12)
  | 29 => decide (j < 120)
  | _ => false
abbrev Ld : Type := Nat → Nat → Int32
def up2 (T : Ld) (c j : Nat) (x : Int32) (c' j' : Nat) : Int32 := if c' = c ∧ j' = j then x else T c' j'
def TC (M : Mem) (a c j : Nat) : Int32 := if okC c j = true then M.1 c a j else 0
theorem TC_rd {M : Mem} {a c j : Nat} (h : okC c j = true) : TC M a c j = M.1 c a j := if_pos h
theorem TC_st {M : Mem} {a c j : Nat} {x : Int32} (h : okC c j = true) : TC (st M c a j x) a = up2 (TC M a) c j x := by
  funext c' j'
  show (if okC c' j' = true then (if c' = c ∧ a = a ∧ j' = j then x else M.1 c' a j') else 0) = (if c' = c ∧ j' = j then x else (if okC c' j' = true then M.1 c' a j' else 0))
  by_cases h1 : c' = c ∧ j' = j
  · obtain ⟨rfl, rfl⟩ := h1
    simp [h]
  · by_cases h2 : okC c' j' = true
    · simp only [h2, if_true]
      rw [if_neg (fun z => h1 ⟨z.1, z.2.2⟩), if_neg h1]
    · rw [if_neg h2, if_neg h1, if_neg h2]
theorem TC_off {M : Mem} {a b c j : Nat} {x : Int32} (h : (∀ i, okC c i = false) ∨ b ≠ a) : TC (st M c b j x) a = TC M a := by
  funext c' j'
  unfold TC st
  by_cases h2 : okC c' j' = true
  · simp only [h2, if_true]
    rw [if_neg]
    rintro ⟨rfl, rfl, rfl⟩
    rcases h with h | h
    · rw [h] at h2; cases h2
    · exact h rfl
  · rw [if_neg h2, if_neg h2]
theorem TC_of {M M' : Mem} {a b : Nat} (h : ∀ c, 20 ≤ c → c < 30 → M'.1 c b = M.1 c a) : TC M' b = TC M a := by
  funext c j
  unfold TC
  by_cases h2 : okC c j = true
  · have hc : 20 ≤ c ∧ c < 30 := by
      unfold okC at h2
      split at h2 <;> first | omega | cases h2
    rw [if_pos h2, if_pos h2, h c hc.1 hc.2]
  · rw [if_neg h2, if_neg h2]
/-- the same land in the reference's row -/
def mcell (w : Nat → Int32) (c j : Nat) : Int32 :=
  match c with
  | 20 => match j with
    | 0 => w 4
    | 1 => w 0
    | 2 => w 1
    | 3 => w 2
    | 4 => w 3
    | 5 => w 229
    | 6 => w 230
    | _ => w 231
  | 21 => w (241 + j)
  | 22 => w (7 + j)
  | 23 => (w 6 >>> iN j) &&& 1
  | 24 => w (29 + j)
  | 25 => w (251 + j)
  | 26 => w (263 + j)
  | 27 => w (275 + j)
  | 28 => w (17 + j)
  | _ => w (109 + j)
def TW (w : Nat → Int32) (c j : Nat) : Int32 := if okC c j = true then mcell w c j else 0
abbrev TM (M : Mem) : Ld := TW (M.1 101 0)
theorem TW_rd {w : Nat → Int32} {c j : Nat} (h : okC c j = true) : TW w c j = mcell w c j := if_pos h
theorem upd_at {f : Nat → Int32} {k : Nat} {x : Int32} : upd f k x k = x := by simp [upd]
theorem upd_ne {f : Nat → Int32} {k j : Nat} {x : Int32} (h : j ≠ k) : upd f k x j = f j := by simp [upd, h]
/-- a cell of the row that is written, seen in the land -/
theorem TW_up {w : Nat → Int32} {c j k : Nat} {x : Int32} (h : okC c j = true) (hk : ∀ w', mcell w' c j = w' k) (h6 : k ≠ 6) (hd : ∀ c' j', okC c' j' = true → c' ≠ 23 → (c' = c ∧ j' = j) ∨ mcell (upd w k x) c' j' = mcell w c' j') (h23 : c ≠ 23) : TW (upd w k x) = up2 (TW w) c j x := by
  funext c' j'
  show (if okC c' j' = true then mcell (upd w k x) c' j' else 0) = (if c' = c ∧ j' = j then x else (if okC c' j' = true then mcell w c' j' else 0))
  by_cases h1 : c' = c ∧ j' = j
  · obtain ⟨rfl, rfl⟩ := h1
    rw [if_pos h, if_pos ⟨rfl, rfl⟩, hk, upd_at]
  · rw [if_neg h1]
    by_cases h2 : okC c' j' = true
    · rw [if_pos h2, if_pos h2]
      by_cases h3 : c' = 23
      · subst h3
        show (upd w k x 6 >>> iN j') &&& 1 = (w 6 >>> iN j') &&& 1
        rw [upd_ne (Ne.symm h6)]
      · rcases hd c' j' h2 h3 with h4 | h4
        · exact absurd h4 h1
        · exact h4
    · rw [if_neg h2, if_neg h2]
theorem eight {j : Nat} (h : j < 8) : j = 0 ∨ j = 1 ∨ j = 2 ∨ j = 3 ∨ j = 4 ∨ j = 5 ∨ j = 6 ∨ j = 7 := by omega
/-- cells of the row apart from k keep the land -/
theorem mcell_ne {w : Nat → Int32} {k : Nat} {x : Int32} {c' j' : Nat} (h2 : okC c' j' = true) (h3 : c' ≠ 23) (hk : (c' = 20 → ([4, 0, 1, 2, 3, 229, 230, 231].getD j' 0) ≠ k) ∧ (c' = 21 → 241 + j' ≠ k) ∧ (c' = 22 → 7 + j' ≠ k) ∧ (c' = 24 → 29 + j' ≠ k) ∧ (c' = 25 → 251 + j' ≠ k) ∧ (c' = 26 → 263 + j' ≠ k) ∧ (c' = 27 → 275 + j' ≠ k) ∧ (c' = 28 → 17 + j' ≠ k) ∧ (c' = 29 → 109 + j' ≠ k)) : mcell (upd w k x) c' j' = mcell w c' j' := by
  unfold okC at h2
  split at h2
  · simp only [decide_eq_true_eq] at h2
    have h4 := hk.1 rfl
    rcases eight h2 with rfl | rfl | rfl | rfl | rfl | rfl | rfl | rfl <;> exact upd_ne h4
  · exact upd_ne (hk.2.1 rfl)
  · exact upd_ne (hk.2.2.1 rfl)
  · exact absurd rfl h3
  · exact upd_ne (hk.2.2.2.1 rfl)
  · exact upd_ne (hk.2.2.2.2.1 rfl)
  · exact upd_ne (hk.2.2.2.2.2.1 rfl)
  · exact upd_ne (hk.2.2.2.2.2.2.1 rfl)
  · exact upd_ne (hk.2.2.2.2.2.2.2.1 rfl)
  · exact upd_ne (hk.2.2.2.2.2.2.2.2 rfl)
  · cases h2
theorem okC_lt {c j : Nat} (h : okC c j = true) : (c = 20 → j < 8) ∧ (c = 21 → j < 10) ∧ (c = 22 → j < 10) ∧ (c = 23 → j < 8) ∧ (c = 24 → j < 80) ∧ (c = 25 → j < 12) ∧ (c = 26 → j < 12) ∧ (c = 27 → j < 12) ∧ (c = 28 → j < 12) ∧ (c = 29 → j < 120) := by
  refine ⟨?_, ?_, ?_, ?_, ?_, ?_, ?_, ?_, ?_, ?_⟩ <;> (rintro rfl; simpa [okC] using h)
theorem eight_ne {j k : Nat} (h : j < 8) (hk : k ≠ 4 ∧ k ≠ 0 ∧ k ≠ 1 ∧ k ≠ 2 ∧ k ≠ 3 ∧ k ≠ 229 ∧ k ≠ 230 ∧ k ≠ 231) : ([4, 0, 1, 2, 3, 229, 230, 231].getD j 0) ≠ k := by
  rcases eight h with rfl | rfl | rfl | rfl | rfl | rfl | rfl | rfl <;> simp <;> omega
theorem TW_21 {w : Nat → Int32} {j : Nat} {x : Int32} (h : j < 10) : TW (upd w (241 + j) x) = up2 (TW w) 21 j x := by
  refine TW_up (by simpa [okC] using h) (fun _ => rfl) (by omega) (fun c' j' h2 h3 => ?_) (by decide)
  by_cases h4 : c' = 21 ∧ j' = j
  · exact Or.inl h4
  · refine Or.inr (mcell_ne h2 h3 ?_)
    have h5 := okC_lt h2
    clear h2
    exact ⟨fun z => eight_ne (h5.1 z) (by clear h5; omega), fun z => by have := h5.2.1 z; clear h5; omega, fun z => by have := h5.2.2.1 z; clear h5; omega, fun z => by have := h5.2.2.2.2.1 z; clear h5; omega, fun z => by have := h5.2.2.2.2.2.1 z; clear h5; omega, fun z => by have := h5.2.2.2.2.2.2.1 z; clear h5; omega, fun z => by have := h5.2.2.2.2.2.2.2.1 z; clear h5; omega, fun z => by have := h5.2.2.2.2.2.2.2.2.1 z; clear h5; omega, fun z => by have := h5.2.2.2.2.2.2.2.2.2 z; clear h5; omega⟩
theorem TW_22 {w : Nat → Int32} {j : Nat} {x : Int32} (h : j < 10) : TW (upd w (7 + j) x) = up2 (TW w) 22 j x := by
  refine TW_up (by simpa [okC] using h) (fun _ => rfl) (by omega) (fun c' j' h2 h3 => ?_) (by decide)
  by_cases h4 : c' = 22 ∧ j' = j
  · exact Or.inl h4
  · refine Or.inr (mcell_ne h2 h3 ?_)
    have h5 := okC_lt h2
    clear h2
    exact ⟨fun z => eight_ne (h5.1 z) (by clear h5; omega), fun z => by have := h5.2.1 z; clear h5; omega, fun z => by have := h5.2.2.1 z; clear h5; omega, fun z => by have := h5.2.2.2.2.1 z; clear h5; omega, fun z => by have := h5.2.2.2.2.2.1 z; clear h5; omega, fun z => by have := h5.2.2.2.2.2.2.1 z; clear h5; omega, fun z => by have := h5.2.2.2.2.2.2.2.1 z; clear h5; omega, fun z => by have := h5.2.2.2.2.2.2.2.2.1 z; clear h5; omega, fun z => by have := h5.2.2.2.2.2.2.2.2.2 z; clear h5; omega⟩
theorem TW_24 {w : Nat → Int32} {j : Nat} {x : Int32} (h : j < 80) : TW (upd w (29 + j) x) = up2 (TW w) 24 j x := by
  refine TW_up (by simpa [okC] using h) (fun _ => rfl) (by omega) (fun c' j' h2 h3 => ?_) (by decide)
  by_cases h4 : c' = 24 ∧ j' = j
  · exact Or.inl h4
  · refine Or.inr (mcell_ne h2 h3 ?_)
    have h5 := okC_lt h2
    clear h2
    exact ⟨fun z => eight_ne (h5.1 z) (by clear h5; omega), fun z => by have := h5.2.1 z; clear h5; omega, fun z => by have := h5.2.2.1 z; clear h5; omega, fun z => by have := h5.2.2.2.2.1 z; clear h5; omega, fun z => by have := h5.2.2.2.2.2.1 z; clear h5; omega, fun z => by have := h5.2.2.2.2.2.2.1 z; clear h5; omega, fun z => by have := h5.2.2.2.2.2.2.2.1 z; clear h5; omega, fun z => by have := h5.2.2.2.2.2.2.2.2.1 z; clear h5; omega, fun z => by have := h5.2.2.2.2.2.2.2.2.2 z; clear h5; omega⟩
theorem TW_25 {w : Nat → Int32} {j : Nat} {x : Int32} (h : j < 12) : TW (upd w (251 + j) x) = up2 (TW w) 25 j x := by
  refine TW_up (by simpa [okC] using h) (fun _ => rfl) (by omega) (fun c' j' h2 h3 => ?_) (by decide)
  by_cases h4 : c' = 25 ∧ j' = j
  · exact Or.inl h4
  · refine Or.inr (mcell_ne h2 h3 ?_)
    have h5 := okC_lt h2
    clear h2
    exact ⟨fun z => eight_ne (h5.1 z) (by clear h5; omega), fun z => by have := h5.2.1 z; clear h5; omega, fun z => by have := h5.2.2.1 z; clear h5; omega, fun z => by have := h5.2.2.2.2.1 z; clear h5; omega, fun z => by have := h5.2.2.2.2.2.1 z; clear h5; omega, fun z => by have := h5.2.2.2.2.2.2.1 z; clear h5; omega, fun z => by have := h5.2.2.2.2.2.2.2.1 z; clear h5; omega, fun z => by have := h5.2.2.2.2.2.2.2.2.1 z; clear h5; omega, fun z => by have := h5.2.2.2.2.2.2.2.2.2 z; clear h5; omega⟩
theorem TW_26 {w : Nat → Int32} {j : Nat} {x : Int32} (h : j < 12) : TW (upd w (263 + j) x) = up2 (TW w) 26 j x := by
  refine TW_up (by simpa [okC] using h) (fun _ => rfl) (by omega) (fun c' j' h2 h3 => ?_) (by decide)
  by_cases h4 : c' = 26 ∧ j' = j
  · exact Or.inl h4
  · refine Or.inr (mcell_ne h2 h3 ?_)
    have h5 := okC_lt h2
    clear h2
    exact ⟨fun z => eight_ne (h5.1 z) (by clear h5; omega), fun z => by have := h5.2.1 z; clear h5; omega, fun z => by have := h5.2.2.1 z; clear h5; omega, fun z => by have := h5.2.2.2.2.1 z; clear h5; omega, fun z => by have := h5.2.2.2.2.2.1 z; clear h5; omega, fun z => by have := h5.2.2.2.2.2.2.1 z; clear h5; omega, fun z => by have := h5.2.2.2.2.2.2.2.1 z; clear h5; omega, fun z => by have := h5.2.2.2.2.2.2.2.2.1 z; clear h5; omega, fun z => by have := h5.2.2.2.2.2.2.2.2.2 z; clear h5; omega⟩
theorem TW_27 {w : Nat → Int32} {j : Nat} {x : Int32} (h : j < 12) : TW (upd w (275 + j) x) = up2 (TW w) 27 j x := by
  refine TW_up (by simpa [okC] using h) (fun _ => rfl) (by omega) (fun c' j' h2 h3 => ?_) (by decide)
  by_cases h4 : c' = 27 ∧ j' = j
  · exact Or.inl h4
  · refine Or.inr (mcell_ne h2 h3 ?_)
    have h5 := okC_lt h2
    clear h2
    exact ⟨fun z => eight_ne (h5.1 z) (by clear h5; omega), fun z => by have := h5.2.1 z; clear h5; omega, fun z => by have := h5.2.2.1 z; clear h5; omega, fun z => by have := h5.2.2.2.2.1 z; clear h5; omega, fun z => by have := h5.2.2.2.2.2.1 z; clear h5; omega, fun z => by have := h5.2.2.2.2.2.2.1 z; clear h5; omega, fun z => by have := h5.2.2.2.2.2.2.2.1 z; clear h5; omega, fun z => by have := h5.2.2.2.2.2.2.2.2.1 z; clear h5; omega, fun z => by have := h5.2.2.2.2.2.2.2.2.2 z; clear h5; omega⟩
theorem TW_28 {w : Nat → Int32} {j : Nat} {x : Int32} (h : j < 12) : TW (upd w (17 + j) x) = up2 (TW w) 28 j x := by
  refine TW_up (by simpa [okC] using h) (fun _ => rfl) (by omega) (fun c' j' h2 h3 => ?_) (by decide)
  by_cases h4 : c' = 28 ∧ j' = j
  · exact Or.inl h4
  · refine Or.inr (mcell_ne h2 h3 ?_)
    have h5 := okC_lt h2
    clear h2
    exact ⟨fun z => eight_ne (h5.1 z) (by clear h5; omega), fun z => by have := h5.2.1 z; clear h5; omega, fun z => by have := h5.2.2.1 z; clear h5; omega, fun z => by have := h5.2.2.2.2.1 z; clear h5; omega, fun z => by have := h5.2.2.2.2.2.1 z; clear h5; omega, fun z => by have := h5.2.2.2.2.2.2.1 z; clear h5; omega, fun z => by have := h5.2.2.2.2.2.2.2.1 z; clear h5; omega, fun z => by have := h5.2.2.2.2.2.2.2.2.1 z; clear h5; omega, fun z => by have := h5.2.2.2.2.2.2.2.2.2 z; clear h5; omega⟩
theorem TW_29 {w : Nat → Int32} {j : Nat} {x : Int32} (h : j < 120) : TW (upd w (109 + j) x) = up2 (TW w) 29 j x := by
  refine TW_up (by simpa [okC] using h) (fun _ => rfl) (by omega) (fun c' j' h2 h3 => ?_) (by decide)
  by_cases h4 : c' = 29 ∧ j' = j
  · exact Or.inl h4
  · refine Or.inr (mcell_ne h2 h3 ?_)
    have h5 := okC_lt h2
    clear h2
    exact ⟨fun z => eight_ne (h5.1 z) (by clear h5; omega), fun z => by have := h5.2.1 z; clear h5; omega, fun z => by have := h5.2.2.1 z; clear h5; omega, fun z => by have := h5.2.2.2.2.1 z; clear h5; omega, fun z => by have := h5.2.2.2.2.2.1 z; clear h5; omega, fun z => by have := h5.2.2.2.2.2.2.1 z; clear h5; omega, fun z => by have := h5.2.2.2.2.2.2.2.1 z; clear h5; omega, fun z => by have := h5.2.2.2.2.2.2.2.2.1 z; clear h5; omega, fun z => by have := h5.2.2.2.2.2.2.2.2.2 z; clear h5; omega⟩
theorem TW_20_0 {w : Nat → Int32} {x : Int32} : TW (upd w 4 x) = up2 (TW w) 20 0 x := by
  refine TW_up (by decide) (fun _ => rfl) (by decide) (fun c' j' h2 h3 => ?_) (by decide)
  by_cases h4 : c' = 20 ∧ j' = 0
  · exact Or.inl h4
  · refine Or.inr (mcell_ne h2 h3 ?_)
    have h5 := okC_lt h2
    refine ⟨fun z => ?_, fun z => by have := h5.2.1 z; clear h5; omega, fun z => by have := h5.2.2.1 z; clear h5; omega, fun z => by have := h5.2.2.2.2.1 z; clear h5; omega, fun z => by have := h5.2.2.2.2.2.1 z; clear h5; omega, fun z => by have := h5.2.2.2.2.2.2.1 z; clear h5; omega, fun z => by have := h5.2.2.2.2.2.2.2.1 z; clear h5; omega, fun z => by have := h5.2.2.2.2.2.2.2.2.1 z; clear h5; omega, fun z => by have := h5.2.2.2.2.2.2.2.2.2 z; clear h5; omega⟩
    have h6 : j' ≠ 0 := fun y => h4 ⟨z, y⟩
    rcases eight (h5.1 z) with rfl | rfl | rfl | rfl | rfl | rfl | rfl | rfl <;> first | (simp; done) | (exact absurd rfl h6)
theorem TW_20_1 {w : Nat → Int32} {x : Int32} : TW (upd w 0 x) = up2 (TW w) 20 1 x := by
  refine TW_up (by decide) (fun _ => rfl) (by decide) (fun c' j' h2 h3 => ?_) (by decide)
  by_cases h4 : c' = 20 ∧ j' = 1
  · exact Or.inl h4
  · refine Or.inr (mcell_ne h2 h3 ?_)
    have h5 := okC_lt h2
    refine ⟨fun z => ?_, fun z => by have := h5.2.1 z; clear h5; omega, fun z => by have := h5.2.2.1 z; clear h5; omega, fun z => by have := h5.2.2.2.2.1 z; clear h5; omega, fun z => by have := h5.2.2.2.2.2.1 z; clear h5; omega, fun z => by have := h5.2.2.2.2.2.2.1 z; clear h5; omega, fun z => by have := h5.2.2.2.2.2.2.2.1 z; clear h5; omega, fun z => by have := h5.2.2.2.2.2.2.2.2.1 z; clear h5; omega, fun z => by have := h5.2.2.2.2.2.2.2.2.2 z; clear h5; omega⟩
    have h6 : j' ≠ 1 := fun y => h4 ⟨z, y⟩
    rcases eight (h5.1 z) with rfl | rfl | rfl | rfl | rfl | rfl | rfl | rfl <;> first | (simp; done) | (exact absurd rfl h6)
theorem TW_20_2 {w : Nat → Int32} {x : Int32} : TW (upd w 1 x) = up2 (TW w) 20 2 x := by
  refine TW_up (by decide) (fun _ => rfl) (by decide) (fun c' j' h2 h3 => ?_) (by decide)
  by_cases h4 : c' = 20 ∧ j' = 2
  · exact Or.inl h4
  · refine Or.inr (mcell_ne h2 h3 ?_)
    have h5 := okC_lt h2
    refine ⟨fun z => ?_, fun z => by have := h5.2.1 z; clear h5; omega, fun z => by have := h5.2.2.1 z; clear h5; omega, fun z => by have := h5.2.2.2.2.1 z; clear h5; omega, fun z => by have := h5.2.2.2.2.2.1 z; clear h5; omega, fun z => by have := h5.2.2.2.2.2.2.1 z; clear h5; omega, fun z => by have := h5.2.2.2.2.2.2.2.1 z; clear h5; omega, fun z => by have := h5.2.2.2.2.2.2.2.2.1 z; clear h5; omega, fun z => by have := h5.2.2.2.2.2.2.2.2.2 z; clear h5; omega⟩
    have h6 : j' ≠ 2 := fun y => h4 ⟨z, y⟩
    rcases eight (h5.1 z) with rfl | rfl | rfl | rfl | rfl | rfl | rfl | rfl <;> first | (simp; done) | (exact absurd rfl h6)
theorem TW_20_3 {w : Nat → Int32} {x : Int32} : TW (upd w 2 x) = up2 (TW w) 20 3 x := by
  refine TW_up (by decide) (fun _ => rfl) (by decide) (fun c' j' h2 h3 => ?_) (by decide)
  by_cases h4 : c' = 20 ∧ j' = 3
  · exact Or.inl h4
  · refine Or.inr (mcell_ne h2 h3 ?_)
    have h5 := okC_lt h2
    refine ⟨fun z => ?_, fun z => by have := h5.2.1 z; clear h5; omega, fun z => by have := h5.2.2.1 z; clear h5; omega, fun z => by have := h5.2.2.2.2.1 z; clear h5; omega, fun z => by have := h5.2.2.2.2.2.1 z; clear h5; omega, fun z => by have := h5.2.2.2.2.2.2.1 z; clear h5; omega, fun z => by have := h5.2.2.2.2.2.2.2.1 z; clear h5; omega, fun z => by have := h5.2.2.2.2.2.2.2.2.1 z; clear h5; omega, fun z => by have := h5.2.2.2.2.2.2.2.2.2 z; clear h5; omega⟩
    have h6 : j' ≠ 3 := fun y => h4 ⟨z, y⟩
    rcases eight (h5.1 z) with rfl | rfl | rfl | rfl | rfl | rfl | rfl | rfl <;> first | (simp; done) | (exact absurd rfl h6)
theorem TW_20_4 {w : Nat → Int32} {x : Int32} : TW (upd w 3 x) = up2 (TW w) 20 4 x := by
  refine TW_up (by decide) (fun _ => rfl) (by decide) (fun c' j' h2 h3 => ?_) (by decide)
  by_cases h4 : c' = 20 ∧ j' = 4
  · exact Or.inl h4
  · refine Or.inr (mcell_ne h2 h3 ?_)
    have h5 := okC_lt h2
    refine ⟨fun z => ?_, fun z => by have := h5.2.1 z; clear h5; omega, fun z => by have := h5.2.2.1 z; clear h5; omega, fun z => by have := h5.2.2.2.2.1 z; clear h5; omega, fun z => by have := h5.2.2.2.2.2.1 z; clear h5; omega, fun z => by have := h5.2.2.2.2.2.2.1 z; clear h5; omega, fun z => by have := h5.2.2.2.2.2.2.2.1 z; clear h5; omega, fun z => by have := h5.2.2.2.2.2.2.2.2.1 z; clear h5; omega, fun z => by have := h5.2.2.2.2.2.2.2.2.2 z; clear h5; omega⟩
    have h6 : j' ≠ 4 := fun y => h4 ⟨z, y⟩
    rcases eight (h5.1 z) with rfl | rfl | rfl | rfl | rfl | rfl | rfl | rfl <;> first | (simp; done) | (exact absurd rfl h6)
theorem TW_20_5 {w : Nat → Int32} {x : Int32} : TW (upd w 229 x) = up2 (TW w) 20 5 x := by
  refine TW_up (by decide) (fun _ => rfl) (by decide) (fun c' j' h2 h3 => ?_) (by decide)
  by_cases h4 : c' = 20 ∧ j' = 5
  · exact Or.inl h4
  · refine Or.inr (mcell_ne h2 h3 ?_)
    have h5 := okC_lt h2
    refine ⟨fun z => ?_, fun z => by have := h5.2.1 z; clear h5; omega, fun z => by have := h5.2.2.1 z; clear h5; omega, fun z => by have := h5.2.2.2.2.1 z; clear h5; omega, fun z => by have := h5.2.2.2.2.2.1 z; clear h5; omega, fun z => by have := h5.2.2.2.2.2.2.1 z; clear h5; omega, fun z => by have := h5.2.2.2.2.2.2.2.1 z; clear h5; omega, fun z => by have := h5.2.2.2.2.2.2.2.2.1 z; clear h5; omega, fun z => by have := h5.2.2.2.2.2.2.2.2.2 z; clear h5; omega⟩
    have h6 : j' ≠ 5 := fun y => h4 ⟨z, y⟩
    rcases eight (h5.1 z) with rfl | rfl | rfl | rfl | rfl | rfl | rfl | rfl <;> first | (simp; done) | (exact absurd rfl h6)
theorem TW_20_6 {w : Nat → Int32} {x : Int32} : TW (upd w 230 x) = up2 (TW w) 20 6 x := by
  refine TW_up (by decide) (fun _ => rfl) (by decide) (fun c' j' h2 h3 => ?_) (by decide)
  by_cases h4 : c' = 20 ∧ j' = 6
  · exact Or.inl h4
  · refine Or.inr (mcell_ne h2 h3 ?_)
    have h5 := okC_lt h2
    refine ⟨fun z => ?_, fun z => by have := h5.2.1 z; clear h5; omega, fun z => by have := h5.2.2.1 z; clear h5; omega, fun z => by have := h5.2.2.2.2.1 z; clear h5; omega, fun z => by have := h5.2.2.2.2.2.1 z; clear h5; omega, fun z => by have := h5.2.2.2.2.2.2.1 z; clear h5; omega, fun z => by have := h5.2.2.2.2.2.2.2.1 z; clear h5; omega, fun z => by have := h5.2.2.2.2.2.2.2.2.1 z; clear h5; omega, fun z => by have := h5.2.2.2.2.2.2.2.2.2 z; clear h5; omega⟩
    have h6 : j' ≠ 6 := fun y => h4 ⟨z, y⟩
    rcases eight (h5.1 z) with rfl | rfl | rfl | rfl | rfl | rfl | rfl | rfl <;> first | (simp; done) | (exact absurd rfl h6)
theorem TW_20_7 {w : Nat → Int32} {x : Int32} : TW (upd w 231 x) = up2 (TW w) 20 7 x := by
  refine TW_up (by decide) (fun _ => rfl) (by decide) (fun c' j' h2 h3 => ?_) (by decide)
  by_cases h4 : c' = 20 ∧ j' = 7
  · exact Or.inl h4
  · refine Or.inr (mcell_ne h2 h3 ?_)
    have h5 := okC_lt h2
    refine ⟨fun z => ?_, fun z => by have := h5.2.1 z; clear h5; omega, fun z => by have := h5.2.2.1 z; clear h5; omega, fun z => by have := h5.2.2.2.2.1 z; clear h5; omega, fun z => by have := h5.2.2.2.2.2.1 z; clear h5; omega, fun z => by have := h5.2.2.2.2.2.2.1 z; clear h5; omega, fun z => by have := h5.2.2.2.2.2.2.2.1 z; clear h5; omega, fun z => by have := h5.2.2.2.2.2.2.2.2.1 z; clear h5; omega, fun z => by have := h5.2.2.2.2.2.2.2.2.2 z; clear h5; omega⟩
    have h6 : j' ≠ 7 := fun y => h4 ⟨z, y⟩
    rcases eight (h5.1 z) with rfl | rfl | rfl | rfl | rfl | rfl | rfl | rfl <;> first | (simp; done) | (exact absurd rfl h6)
/-- a cell of the row that isn't of the land -/
theorem TW_off {w : Nat → Int32} {k : Nat} {x : Int32} (hk : k = 5 ∨ (232 ≤ k ∧ k < 241) ∨ 287 ≤ k) : TW (upd w k x) = TW w := by
  funext c' j'
  unfold TW
  by_cases h2 : okC c' j' = true
  · rw [if_pos h2, if_pos h2]
    by_cases h3 : c' = 23
    · subst h3
      show (upd w k x 6 >>> iN j') &&& 1 = (w 6 >>> iN j') &&& 1
      rw [upd_ne (by omega)]
    · refine mcell_ne h2 h3 ?_
      have h5 := okC_lt h2
      exact ⟨fun z => eight_ne (h5.1 z) (by clear h5; omega), fun z => by have := h5.2.1 z; clear h5; omega, fun z => by have := h5.2.2.1 z; clear h5; omega, fun z => by have := h5.2.2.2.2.1 z; clear h5; omega, fun z => by have := h5.2.2.2.2.2.1 z; clear h5; omega, fun z => by have := h5.2.2.2.2.2.2.1 z; clear h5; omega, fun z => by have := h5.2.2.2.2.2.2.2.1 z; clear h5; omega, fun z => by have := h5.2.2.2.2.2.2.2.2.1 z; clear h5; omega, fun z => by have := h5.2.2.2.2.2.2.2.2.2 z; clear h5; omega⟩
  · rw [if_neg h2, if_neg h2]
theorem w_st {M : Mem} {k : Nat} {x : Int32} : (st M 101 0 k x).1 101 0 = upd (M.1 101 0) k x := st_eq
