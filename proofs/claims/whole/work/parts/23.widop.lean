abbrev GO : Int32 → Int32 → Bool := fun x y => inR x 0 3 && inR y 0 99
theorem great_ge {f g : Nat → Int32} {t : Int32} : ∀ {n : Nat}, (∀ j, j < n → inR (g j) 0 99 = true) → -1 ≤ great f g t n
  | 0, _ => by show (-1 : Int32) ≤ -1; decide
  | n + 1, h => by
    have h1 := great_ge (f := f) (t := t) (n := n) (fun j hj => h j (by omega))
    have h2 := h n (by omega)
    simp only [inR, Bool.and_eq_true, decide_eq_true_eq] at h2
    simp only [great, gtr]
    grind
theorem great_no {f g : Nat → Int32} : ∀ {n : Nat}, (∀ j, j < n → inR (f j) 0 3 = true) → great f g (-1) n = -1
  | 0, _ => rfl
  | n + 1, h => by
    have h1 := great_no (g := g) (n := n) (fun j hj => h j (by omega))
    have h2 := h n (by omega)
    simp only [inR, Bool.and_eq_true, decide_eq_true_eq] at h2
    simp only [great]
    rw [if_neg (by grind)]
    exact h1
theorem great_pos {f g : Nat → Int32} : ∀ {n : Nat}, 0 < n → (∀ j, j < n → inR (g j) 0 99 = true) → 0 ≤ great f g (f 0) n
  | 1, _, h => by
    have h2 := h 0 (by omega)
    simp only [inR, Bool.and_eq_true, decide_eq_true_eq] at h2
    simp only [great, gtr]
    grind
  | n + 2, _, h => by
    have h1 := great_pos (f := f) (n := n + 1) (by omega) (fun j hj => h j (by omega))
    have h2 := h (n + 1) (by omega)
    simp only [inR, Bool.and_eq_true, decide_eq_true_eq] at h2
    show 0 ≤ (if f (n + 1) = f 0 then gtr (great f g (f 0) (n + 1)) (g (n + 1)) else great f g (f 0) (n + 1))
    simp only [gtr]
    grind
theorem mstB_in (gr : Int32 → Int32) : mstB gr 3 = 0 ∨ mstB gr 3 = 1 ∨ mstB gr 3 = 2 ∨ mstB gr 3 = 3 := by
  have e1 : iN 1 = 1 := rfl
  have e2 : iN 2 = 2 := rfl
  have e3 : iN 3 = 3 := rfl
  simp only [mstB, e1, e2, e3, Nat.zero_add, Nat.reduceAdd]
  repeat' split
  all_goals simp
/-- widow, both -/
theorem op136 {X : Cx} {d : Nat} {M : Mem} {n : Nat} {q : Int32} (h : ToldR M 89 0 (M.1 101 0) 239 617 2 8 GO n) : ∃ (x : Int32), CC X (d + 3) 136 [vR 2 0, vI q] M (some (vI x)) M ∧ CC X (d + 3) 261 [vR 100 0, vI q] M (some (vI x)) M := by
  obtain ⟨q1, q2, q3, q4, q5, q6⟩ := h
  refine ⟨_, e136 (w136_0 ⟨fun h0 => ⟨?_, rfl⟩, fun h0 => ⟨_, _, c146, bI_if1 (fun h1 => ⟨_, _, c82 q1 q2, fun hq => ⟨_, _, c82 q1 q2, _, _, c83 q1 q2, ?_, rfl⟩, fun hq => ⟨?_, rfl⟩⟩) (fun h1 => ⟨by rw [h1]; rfl, rfl⟩)⟩⟩), c261 (f := M.1 90 0) (g := M.1 91 0) q1 q3 (fun j hj => (q4 j hj).symm) (fun j hj => (q5 rfl j hj).symm)⟩
  · rw [q2] at h0
    have h0 : n = 0 := (iN_inj (b := 0) (by omega) (by decide)).mp h0
    rw [if_neg (fun y => y.2 h0)]
  all_goals
    have hn : ¬ n = 0 := fun y => h0 (by rw [q2, y]; rfl)
    have g1 : ∀ j, j < n → inR (M.1 90 0 j) 0 3 = true := fun j hj => (inR_two (q6 j hj)).1
    have g2 : ∀ j, j < n → inR (M.1 91 0 j) 0 99 = true := fun j hj => (inR_two (q6 j hj)).2
    have hm := great_no (g := M.1 91 0) g1
    have hf0 := g1 0 (by omega)
    have hp := great_pos (f := M.1 90 0) (n := n) (by omega) g2
    have hx : 0 ≤ great (M.1 90 0) (M.1 91 0) 0 n ∨ 0 ≤ great (M.1 90 0) (M.1 91 0) 1 n ∨ 0 ≤ great (M.1 90 0) (M.1 91 0) 2 n ∨ 0 ≤ great (M.1 90 0) (M.1 91 0) 3 n := by
      obtain ⟨k, hk, hk2⟩ : ∃ k : Nat, M.1 90 0 0 = iN k ∧ k < 4 := by
        simp only [inR, Bool.and_eq_true, decide_eq_true_eq] at hf0
        exact iN_of_lt (n := 4) (by decide) hf0.1 (by have := hf0.2; show _ < (4 : Int32); grind)
      rw [hk] at hp
      rcases (show k = 0 ∨ k = 1 ∨ k = 2 ∨ k = 3 by omega) with rfl | rfl | rfl | rfl
      · exact Or.inl hp
      · exact Or.inr (Or.inl hp)
      · exact Or.inr (Or.inr (Or.inl hp))
      · exact Or.inr (Or.inr (Or.inr hp))
    have hw := four_who (fun t => great (M.1 90 0) (M.1 91 0) t n) hm (great_ge g2) (great_ge g2) (great_ge g2) (great_ge g2) hx
    have hc : inR q 0 1 = true ∧ ¬ n = 0 := ⟨h1, hn⟩
    simp only [if_pos hc]
  · rw [if_neg hq, hw, ← four_next (fun t => great (M.1 90 0) (M.1 91 0) t n) hm (great_ge g2) (great_ge g2) (great_ge g2) (great_ge g2) _ (mstB_in _)]
  · rw [if_pos hq, hw]
/-! clay sums and gardens -/
def SumR (M : Mem) (a : Nat) (W : Nat → Int32) : Prop := ∀ j, j < 6 → ∃ n : Nat, n ≤ 30 ∧ M.1 71 a j = iN n ∧ W (543 + j) = iN n
def GarR (M : Mem) (a : Nat) (W : Nat → Int32) : Prop := ∀ j, j < 8 → ∃ n : Nat, n < 8 ∧ M.1 72 a j = iN n ∧ W (549 + j) = iN n
theorem inR_iN {v : Int32} {hi : Nat} (hh : hi < 2147483648) (h : inR v 0 (iN hi) = true) : ∃ k : Nat, v = iN k ∧ k ≤ hi := by
  simp only [inR, Bool.and_eq_true, decide_eq_true_eq] at h
  obtain ⟨k, rfl, hk, -⟩ := iN_of h.1
  exact ⟨k, rfl, (iN_le hk hh).mp h.2⟩
/-- clay, both -/
theorem op124 {X : Cx} {d : Nat} {M : Mem} {x y : Int32} (h : SumR M 0 (M.1 101 0)) : ∃ (r : Int32) (M1 M2 : Mem), CC X (d + 2) 124 [vR 2 0, vI x, vI y] M (some (vI r)) M1 ∧ CC X (d + 2) 244 [vR 100 0, vI x, vI y] M1 (some (vI r)) M2 ∧ SumR M2 0 (M2.1 101 0) ∧ Keep (fun c a => c = 71 ∧ a = 0) (fun k => 543 ≤ k ∧ k < 549) M M2 := by
  by_cases h1 : inR x 0 5 = true
  · by_cases h2 : inR y 0 30 = true
    · obtain ⟨i, rfl, hi⟩ := inR_iN (hi := 5) (by decide) h1
      obtain ⟨n, rfl, hn⟩ := inR_iN (hi := 30) (by decide) h2
      have e1 : 543 + iN i = iN (543 + i) := by simp only [iN_lit, iN_add]
      refine ⟨1, st M 71 0 i (iN n), st (st M 71 0 i (iN n)) 101 0 (543 + i) (iN n), e124 (w124_0 ⟨_, _, c146, bI_if (fun z => by rw [h1] at z; cases z) (fun _ => ⟨_, _, c146, bI_if1 (fun _ => ⟨inb_of (by omega) (by decide), fun M1 hM => ⟨isB1, rfl, by rw [hM, ix_of (by omega)]⟩⟩) (fun z => by rw [h2] at z; cases z)⟩)⟩), e244 (w244_0 ⟨_, _, c151, bI_if (fun z => by rw [h1] at z; cases z) (fun _ => ⟨_, _, c151, bI_if1 (fun _ => ⟨by rw [e1]; exact inb_of (by omega) (by decide), fun M1 hM => ⟨isB1, rfl, by rw [hM, e1, ix_of (by omega)]⟩⟩) (fun z => by rw [h2] at z; cases z)⟩)⟩), fun j hj => ?_, kp_trans (kp_st (by simp) (by decide)) (kp_w (by omega))⟩
      rw [st_ne (fun z => absurd z.1 (by decide)), st_eq, st_eq]
      by_cases hij : j = i
      · subst hij
        exact ⟨n, hn, upd_at, upd_at⟩
      · obtain ⟨m, g1, g2, g3⟩ := h j hj
        refine ⟨m, g1, by rw [upd_ne hij]; exact g2, ?_⟩
        rw [upd_ne (by omega), st_ne (fun z => absurd z.1 (by decide))]
        exact g3
    · have h2 : inR y 0 30 = false := by simpa using h2
      exact ⟨0, M, M, e124 (w124_0 ⟨_, _, c146, bI_if (fun z => by rw [h1] at z; cases z) (fun _ => ⟨_, _, c146, bI_if1 (fun z => by rw [h2] at z; cases z) (fun _ => ⟨isB0, rfl, rfl⟩)⟩)⟩), e244 (w244_0 ⟨_, _, c151, bI_if (fun z => by rw [h1] at z; cases z) (fun _ => ⟨_, _, c151, bI_if1 (fun z => by rw [h2] at z; cases z) (fun _ => ⟨isB0, rfl, rfl⟩)⟩)⟩), h, kp_refl⟩
  · have h1 : inR x 0 5 = false := by simpa using h1
    exact ⟨0, M, M, e124 (w124_0 ⟨_, _, c146, bI_if (fun _ => ⟨isB0, rfl, rfl⟩) (fun z => by rw [h1] at z; cases z)⟩), e244 (w244_0 ⟨_, _, c151, bI_if (fun _ => ⟨isB0, rfl, rfl⟩) (fun z => by rw [h1] at z; cases z)⟩), h, kp_refl⟩
/-- garden, both -/
theorem op126 {X : Cx} {d : Nat} {M : Mem} {x y : Int32} (h : GarR M 0 (M.1 101 0)) : ∃ (r : Int32) (M1 M2 : Mem), CC X (d + 2) 126 [vR 2 0, vI x, vI y] M (some (vI r)) M1 ∧ CC X (d + 2) 247 [vR 100 0, vI x, vI y] M1 (some (vI r)) M2 ∧ GarR M2 0 (M2.1 101 0) ∧ Keep (fun c a => c = 72 ∧ a = 0) (fun k => 549 ≤ k ∧ k < 557) M M2 := by
  by_cases h1 : inR x 0 7 = true
  · by_cases h2 : inR y 0 7 = true
    · obtain ⟨i, rfl, hi⟩ := inR_iN (hi := 7) (by decide) h1
      obtain ⟨n, rfl, hn⟩ := inR_iN (hi := 7) (by decide) h2
      have e1 : 549 + iN i = iN (549 + i) := by simp only [iN_lit, iN_add]
      refine ⟨1, st M 72 0 i (iN n), st (st M 72 0 i (iN n)) 101 0 (549 + i) (iN n), e126 (w126_0 ⟨_, _, c146, bI_if (fun z => by rw [h1] at z; cases z) (fun _ => ⟨_, _, c146, bI_if1 (fun _ => ⟨inb_of (by omega) (by decide), fun M1 hM => ⟨isB1, rfl, by rw [hM, ix_of (by omega)]⟩⟩) (fun z => by rw [h2] at z; cases z)⟩)⟩), e247 (w247_0 ⟨_, _, c151, bI_if (fun z => by rw [h1] at z; cases z) (fun _ => ⟨_, _, c151, bI_if1 (fun _ => ⟨by rw [e1]; exact inb_of (by omega) (by decide), fun M1 hM => ⟨isB1, rfl, by rw [hM, e1, ix_of (by omega)]⟩⟩) (fun z => by rw [h2] at z; cases z)⟩)⟩), fun j hj => ?_, kp_trans (kp_st (by simp) (by decide)) (kp_w (by omega))⟩
      rw [st_ne (fun z => absurd z.1 (by decide)), st_eq, st_eq]
      by_cases hij : j = i
      · subst hij
        exact ⟨n, by omega, upd_at, upd_at⟩
      · obtain ⟨m, g1, g2, g3⟩ := h j hj
        refine ⟨m, g1, by rw [upd_ne hij]; exact g2, ?_⟩
        rw [upd_ne (by omega), st_ne (fun z => absurd z.1 (by decide))]
        exact g3
    · have h2 : inR y 0 7 = false := by simpa using h2
      exact ⟨0, M, M, e126 (w126_0 ⟨_, _, c146, bI_if (fun z => by rw [h1] at z; cases z) (fun _ => ⟨_, _, c146, bI_if1 (fun z => by rw [h2] at z; cases z) (fun _ => ⟨isB0, rfl, rfl⟩)⟩)⟩), e247 (w247_0 ⟨_, _, c151, bI_if (fun z => by rw [h1] at z; cases z) (fun _ => ⟨_, _, c151, bI_if1 (fun z => by rw [h2] at z; cases z) (fun _ => ⟨isB0, rfl, rfl⟩)⟩)⟩), h, kp_refl⟩
  · have h1 : inR x 0 7 = false := by simpa using h1
    exact ⟨0, M, M, e126 (w126_0 ⟨_, _, c146, bI_if (fun _ => ⟨isB0, rfl, rfl⟩) (fun z => by rw [h1] at z; cases z)⟩), e247 (w247_0 ⟨_, _, c151, bI_if (fun _ => ⟨isB0, rfl, rfl⟩) (fun z => by rw [h1] at z; cases z)⟩), h, kp_refl⟩
