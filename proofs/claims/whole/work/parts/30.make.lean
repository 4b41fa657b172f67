/-! making: state, field, door, person -/
def K3 (P : Nat → Nat → Nat → Prop) (M M2 : Mem) : Prop := ∀ c a j, ¬ P c a j → M2.1 c a j = M.1 c a j
theorem k3_refl {P : Nat → Nat → Nat → Prop} {M : Mem} : K3 P M M := fun _ _ _ _ => rfl
theorem k3_trans {P : Nat → Nat → Nat → Prop} {M M2 M3 : Mem} (h : K3 P M M2) (h2 : K3 P M2 M3) : K3 P M M3 := fun c a j hp => (h2 c a j hp).trans (h c a j hp)
theorem k3_st {P : Nat → Nat → Nat → Prop} {M : Mem} {c a j : Nat} {x : Int32} (h : P c a j) : K3 P M (st M c a j x) := fun c' a' j' hp => st_ne3 (fun z => hp (by rw [z.1, z.2.1, z.2.2]; exact h))
theorem k3_keep {P : Nat → Nat → Prop} {R : Nat → Prop} {M M2 : Mem} (h : Keep P R M M2) (h2 : ∀ a, a ≠ 0 → ∀ j, M2.1 101 a j = M.1 101 a j) : K3 (fun c a j => (c ≠ 101 ∧ P c a) ∨ (c = 101 ∧ a = 0 ∧ R j)) M M2 := by
  intro c a j hp
  by_cases hc : c = 101
  · subst hc
    by_cases ha : a = 0
    · subst ha
      exact h.2 j (fun z => hp (Or.inr ⟨rfl, rfl, z⟩))
    · exact h2 a ha j
  · rw [h.1 c a (fun z => hp (Or.inl ⟨hc, z⟩)) hc]
theorem TW_eq6 {w w' : Nat → Int32} (h : ∀ k, k ≠ 6 → w' k = w k) (h6 : ∀ j, j < 8 → (w' 6 >>> iN j) &&& 1 = (w 6 >>> iN j) &&& 1) : TW w' = TW w := by
  funext c j
  unfold TW
  by_cases hk : okC c j = true
  · rw [if_pos hk, if_pos hk]
    have h5 := okC_lt hk
    unfold okC at hk
    split at hk
    · rcases eight (h5.1 rfl) with rfl | rfl | rfl | rfl | rfl | rfl | rfl | rfl <;> exact h _ (by decide)
    · exact h _ (by omega)
    · exact h _ (by omega)
    · exact h6 j (h5.2.2.2.1 rfl)
    · exact h _ (by omega)
    · exact h _ (by omega)
    · exact h _ (by omega)
    · exact h _ (by omega)
    · exact h _ (by omega)
    · exact h _ (by omega)
    · cases hk
  · rw [if_neg hk, if_neg hk]
/-- one stone bit is written -/
theorem TW_23 {w : Nat → Int32} {j : Nat} {x v : Int32} (hj : j < 8) (h : ∀ i, i < 8 → (v >>> iN i) &&& 1 = if i = j then x else (w 6 >>> iN i) &&& 1) : TW (upd w 6 v) = up2 (TW w) 23 j x := by
  funext c i
  show (if okC c i = true then mcell (upd w 6 v) c i else 0) = (if c = 23 ∧ i = j then x else (if okC c i = true then mcell w c i else 0))
  by_cases hk : okC c i = true
  · rw [if_pos hk, if_pos hk]
    by_cases hc : c = 23
    · subst hc
      have := h i ((okC_lt hk).2.2.2.1 rfl)
      show (upd w 6 v 6 >>> iN i) &&& 1 = _
      rw [upd_at, this]
      by_cases hij : i = j
      · rw [if_pos hij, if_pos ⟨rfl, hij⟩]
      · rw [if_neg hij, if_neg (fun z => hij z.2)]
        rfl
    · rw [if_neg (fun z => hc z.1)]
      have h5 := okC_lt hk
      exact mcell_ne hk hc ⟨fun z => eight_ne (h5.1 z) (by decide), fun z => by omega, fun z => by omega, fun z => by omega, fun z => by omega, fun z => by omega, fun z => by omega, fun z => by omega, fun z => by omega⟩
  · rw [if_neg hk, if_neg hk, if_neg]
    rintro ⟨rfl, rfl⟩
    exact hk (by simpa [okC] using hj)
theorem c10 {X : Cx} {d : Nat} {M : Mem} : CC X (d + 1) 10 [vR 8 0] M none (st M 8 0 0 0) := by
  refine e10 (w10_0 ?_)
  rintro M1 rfl
  exact ⟨rfl, rfl⟩
theorem c159 {X : Cx} {d : Nat} {M : Mem} : CC X (d + 1) 159 [vR 100 0] M none (st M 100 0 4 0) := by
  refine e159 (w159_0 ?_)
  rintro M1 rfl
  exact ⟨rfl, rfl⟩
abbrev fgt : Nat → Nat → Nat → Prop := fun c a j => (c = 8 ∧ a = 0 ∧ j = 0) ∨ (c = 100 ∧ a = 0 ∧ j = 4)
/-- state, both -/
theorem op98 {X : Cx} {d : Nat} {M : Mem} {v : Int32} (h : LandI M) : ∃ (x : Int32) (M1 M2 : Mem), CC X (d + 2) 98 [vR 2 0, vI v] M (some (vI x)) M1 ∧ CC X (d + 2) 160 [vR 100 0, vI v] M1 (some (vI x)) M2 ∧ LandI M2 ∧ M2.1 8 0 0 = 0 ∧ M2.1 100 0 4 = 0 ∧ K3 (fun c a j => fgt c a j ∨ (c = 20 ∧ a = 0 ∧ j = 0) ∨ (c = 101 ∧ a = 0 ∧ j = 4)) M M2 := by
  obtain ⟨hT, hc, k, hk, hw6⟩ := h
  have i4 : inb 4 2129 := inb_l (by decide) (by decide)
  have x4 : ix 4 = 4 := ix_l (by decide)
  have hv : M.1 20 0 0 = M.1 101 0 4 := by
    rw [land_c hT (by decide)]
    exact (TW_c (c := 20) (j := 0) (by decide)).symm
  have eT : TM (st (st (st (st M 8 0 0 0) 20 0 0 v) 101 0 4 v) 100 0 4 0) = up2 (TM M) 20 0 v := by
    show TW ((st (st (st (st M 8 0 0 0) 20 0 0 v) 101 0 4 v) 100 0 4 0).1 101 0) = _
    rw [st_ne (fun z => absurd z.1 (by decide)), w_st, TW_20_0, st_ne (fun z => absurd z.1 (by decide)), st_ne (fun z => absurd z.1 (by decide))]
  refine ⟨M.1 20 0 0, st (st M 8 0 0 0) 20 0 0 v, st (st (st (st M 8 0 0 0) 20 0 0 v) 101 0 4 v) 100 0 4 0, e98 (w98_0 ⟨_, c10, ?_⟩), e160 (w160_0 ⟨i4, i4, ?_⟩), ⟨?_, ?_, k, ?_, ?_⟩, ?_, ?_, ?_⟩
  · rintro M2 rfl
    exact ⟨rfl, rfl⟩
  · rw [x4]
    rintro M1 rfl
    refine ⟨_, c159, ?_, rfl⟩
    rw [st_ne3 (fun z => absurd z.1 (by decide)), st_ne3 (fun z => absurd z.1 (by decide)), hv]
  · rw [eT, ← hT, TC_off (Or.inl (fun _ => rfl)), TC_off (Or.inl (fun _ => rfl)), TC_st (by decide), TC_off (Or.inl (fun _ => rfl))]
  · rw [eT]
    exact hc
  · rw [eT]
    exact hk
  · rw [st_ne3 (fun z => absurd z.1 (by decide)), st_ne3 (by decide), st_ne3 (fun z => absurd z.1 (by decide)), st_ne3 (fun z => absurd z.1 (by decide))]
    exact hw6
  · rw [st_ne3 (fun z => absurd z.1 (by decide)), st_ne3 (fun z => absurd z.1 (by decide)), st_ne3 (fun z => absurd z.1 (by decide)), st_at]
  · rw [st_at]
  · exact k3_trans (k3_trans (k3_trans (k3_st (by simp [fgt])) (k3_st (by simp [fgt]))) (k3_st (by simp [fgt]))) (k3_st (by simp [fgt]))
theorem c60 {X : Cx} {d : Nat} {M : Mem} {a n : Nat} {x y : Int32} (hn : n < 10) (h : M.1 20 a 5 = iN n) : CC X (d + 1) 60 [vR 20 a, vI x, vI y] M (some (vI (iN n))) (st (st (st M 21 a n x) 22 a n y) 20 a 5 (iN (n + 1))) := by
  refine e60 (w60_0 ⟨fun _ => ?_, fun z => absurd ?_ z⟩)
  · rw [h, ix_of (by omega)]
    refine ⟨inb_of hn (by decide), ?_⟩
    rintro M1 rfl
    have g1 : (st M 21 a n x).1 20 a 5 = iN n := by rw [st_ne3 (fun z => absurd z.1 (by decide))]; exact h
    rw [g1, ix_of (by omega)]
    refine ⟨inb_of hn (by decide), ?_⟩
    rintro M2 rfl
    have g2 : (st (st M 21 a n x) 22 a n y).1 20 a 5 = iN n := by rw [st_ne3 (fun z => absurd z.1 (by decide))]; exact g1
    rw [g2, iN_step]
    rintro M3 rfl
    exact ⟨by rw [st_at, iN_pred], rfl⟩
  · rw [h]
    exact (iN_lt (b := 10) (by omega) (by decide)).mpr hn
/-- field, both -/
theorem op99 {X : Cx} {d : Nat} {M : Mem} {u v : Int32} (h : LandI M) : ∃ (x : Int32) (M1 M2 : Mem), CC X (d + 2) 99 [vR 2 0, vI u, vI v] M (some (vI x)) M1 ∧ CC X (d + 2) 162 [vR 100 0, vI u, vI v] M1 (some (vI x)) M2 ∧ (M2 = M ∨ (∃ n : Nat, n < 10 ∧ TM M 20 5 = iN n ∧ inR u 0 5 = true ∧ inR v 0 9999 = true ∧ TC M2 0 = TM M2 ∧ TM M2 = up2 (up2 (up2 (TM M) 21 n u) 22 n v) 20 5 (iN (n + 1)) ∧ M2.1 101 0 6 = M.1 101 0 6 ∧ M2.1 8 0 0 = 0 ∧ M2.1 100 0 4 = 0 ∧ K3 (fun c a j => fgt c a j ∨ (a = 0 ∧ ((c = 20 ∧ j = 5) ∨ c = 21 ∨ c = 22)) ∨ (c = 101 ∧ a = 0 ∧ (j = 229 ∨ (241 ≤ j ∧ j < 251) ∨ (7 ≤ j ∧ j < 17)))) M M2)) := by
  obtain ⟨hT, hc, k, hk, hw6⟩ := h
  obtain ⟨⟨n, hn, n1, n2⟩, -, -⟩ := land_n hT hc
  have i229 : inb 229 2129 := inb_l (by decide) (by decide)
  have x229 : ix 229 = 229 := ix_l (by decide)
  have hfull : M.1 101 0 (ix 229) = 10 ↔ n = 10 := by rw [x229, n2]; exact iN_inj (b := 10) (by omega) (by decide)
  by_cases h1 : inR u 0 5 = true
  · by_cases h2 : inR v 0 9999 = true
    · by_cases hlt : n < 10
      · have e241 : 241 + iN n = iN (241 + n) := by simp only [iN_lit, iN_add]
        have e7 : 7 + iN n = iN (7 + n) := by simp only [iN_lit, iN_add]
        have hcl : (st M 8 0 0 0).1 20 0 5 = iN n := by rw [st_ne3 (fun z => absurd z.1 (by decide))]; exact n1
        generalize hM1 : st (st (st (st M 8 0 0 0) 21 0 n u) 22 0 n v) 20 0 5 (iN (n + 1)) = M1
        have w1 : M1.1 101 0 = M.1 101 0 := by rw [← hM1, st_ne (fun z => absurd z.1 (by decide)), st_ne (fun z => absurd z.1 (by decide)), st_ne (fun z => absurd z.1 (by decide)), st_ne (fun z => absurd z.1 (by decide))]
        have wn : M1.1 101 0 229 = iN n := by rw [w1]; exact n2
        have eW : (st (st (st (st M1 101 0 (241 + n) u) 101 0 (7 + n) v) 101 0 229 (iN (n + 1))) 100 0 4 0).1 101 0 = upd (upd (upd (M.1 101 0) (241 + n) u) (7 + n) v) 229 (iN (n + 1)) := by rw [st_ne (fun z => absurd z.1 (by decide)), w_st, w_st, w_st, w1]
        have eT : TM (st (st (st (st M1 101 0 (241 + n) u) 101 0 (7 + n) v) 101 0 229 (iN (n + 1))) 100 0 4 0) = up2 (up2 (up2 (TM M) 21 n u) 22 n v) 20 5 (iN (n + 1)) := by
          show TW ((st (st (st (st M1 101 0 (241 + n) u) 101 0 (7 + n) v) 101 0 229 (iN (n + 1))) 100 0 4 0).1 101 0) = _
          rw [eW, TW_20_5, TW_22 hlt, TW_21 hlt]
        refine ⟨iN n, M1, st (st (st (st M1 101 0 (241 + n) u) 101 0 (7 + n) v) 101 0 229 (iN (n + 1))) 100 0 4 0, ?_, ?_, Or.inr ⟨n, hlt, ?_, h1, h2, ?_, eT, ?_, ?_, ?_, ?_⟩⟩
        · refine e99 (w99_0 ⟨_, _, c146, bI_if (fun z => by rw [h1] at z; cases z) (fun _ => ⟨_, _, c146, bI_if (fun z => by rw [h2] at z; cases z) (fun _ => ⟨fun _ => ⟨_, c10, _, _, c60 hlt hcl, rfl, hM1⟩, fun z => absurd ?_ z⟩)⟩)⟩)
          rw [n1]
          exact (iN_lt (b := 10) (by omega) (by decide)).mpr hlt
        · refine e162 (w162_0 ⟨_, _, c151, bI_if (fun z => by rw [h1] at z; cases z) (fun _ => ⟨_, _, c151, bI_if (fun z => by rw [h2] at z; cases z) (fun _ => ⟨i229, fun _ => ⟨i229, ?_⟩, fun z => absurd ?_ (Nat.ne_of_lt hlt)⟩)⟩)⟩)
          · rw [x229, wn, e241, ix_of (by omega)]
            refine ⟨inb_of (by omega) (by decide), ?_⟩
            rintro M3 rfl
            have g1 : (st M1 101 0 (241 + n) u).1 101 0 229 = iN n := by rw [st_ne3 (by omega)]; exact wn
            rw [g1, e7, ix_of (by omega)]
            refine ⟨i229, inb_of (by omega) (by decide), ?_⟩
            rintro M4 rfl
            have g2 : (st (st M1 101 0 (241 + n) u) 101 0 (7 + n) v).1 101 0 229 = iN n := by rw [st_ne3 (by omega)]; exact g1
            rw [g2, iN_step]
            refine ⟨i229, i229, ?_⟩
            rintro M5 rfl
            refine ⟨_, c159, i229, ?_, rfl⟩
            rw [st_ne3 (fun z => absurd z.1 (by decide)), st_at, iN_pred]
          · rw [x229, wn] at z
            exact (iN_inj (b := 10) (by omega) (by decide)).mp z
        · exact (TW_c (c := 20) (j := 5) (by decide)).symm.trans n2
        · rw [eT, ← hT, TC_off (Or.inl (fun _ => rfl)), TC_off (Or.inl (fun _ => rfl)), TC_off (Or.inl (fun _ => rfl)), TC_off (Or.inl (fun _ => rfl)), ← hM1, TC_st (by decide), TC_st (by simpa [okC] using hlt), TC_st (by simpa [okC] using hlt), TC_off (Or.inl (fun _ => rfl))]
        · rw [eW, upd_ne (by decide), upd_ne (by omega), upd_ne (by omega)]
        · rw [st_ne3 (fun z => absurd z.1 (by decide)), st_ne3 (fun z => absurd z.1 (by decide)), st_ne3 (fun z => absurd z.1 (by decide)), st_ne3 (fun z => absurd z.1 (by decide)), ← hM1, st_ne3 (fun z => absurd z.1 (by decide)), st_ne3 (fun z => absurd z.1 (by decide)), st_ne3 (fun z => absurd z.1 (by decide)), st_at]
        · rw [st_at]
        · rw [← hM1]
          exact k3_trans (k3_trans (k3_trans (k3_trans (k3_trans (k3_trans (k3_trans (k3_st (by simp [fgt])) (k3_st (by simp [fgt]))) (k3_st (by simp [fgt]))) (k3_st (by simp [fgt]))) (k3_st (by right; right; omega))) (k3_st (by right; right; omega))) (k3_st (by simp [fgt]))) (k3_st (by simp [fgt]))
      · have hn10 : n = 10 := by omega
        refine ⟨-1, M, M, e99 (w99_0 ⟨_, _, c146, bI_if (fun z => by rw [h1] at z; cases z) (fun _ => ⟨_, _, c146, bI_if (fun z => by rw [h2] at z; cases z) (fun _ => ⟨fun z => absurd z ?_, fun _ => ⟨rfl, rfl⟩⟩)⟩)⟩), e162 (w162_0 ⟨_, _, c151, bI_if (fun z => by rw [h1] at z; cases z) (fun _ => ⟨_, _, c151, bI_if (fun z => by rw [h2] at z; cases z) (fun _ => ⟨i229, fun z => absurd (hfull.mpr hn10) z, fun _ => ⟨rfl, rfl⟩⟩)⟩)⟩), Or.inl rfl⟩
        rw [n1, hn10]
        decide
    · have h2 : inR v 0 9999 = false := by simpa using h2
      exact ⟨-1, M, M, e99 (w99_0 ⟨_, _, c146, bI_if (fun z => by rw [h1] at z; cases z) (fun _ => ⟨_, _, c146, bI_if (fun _ => ⟨rfl, rfl⟩) (fun z => by rw [h2] at z; cases z)⟩)⟩), e162 (w162_0 ⟨_, _, c151, bI_if (fun z => by rw [h1] at z; cases z) (fun _ => ⟨_, _, c151, bI_if (fun _ => ⟨rfl, rfl⟩) (fun z => by rw [h2] at z; cases z)⟩)⟩), Or.inl rfl⟩
  · have h1 : inR u 0 5 = false := by simpa using h1
    exact ⟨-1, M, M, e99 (w99_0 ⟨_, _, c146, bI_if (fun _ => ⟨rfl, rfl⟩) (fun z => by rw [h1] at z; cases z)⟩), e162 (w162_0 ⟨_, _, c151, bI_if (fun _ => ⟨rfl, rfl⟩) (fun z => by rw [h1] at z; cases z)⟩), Or.inl rfl⟩
