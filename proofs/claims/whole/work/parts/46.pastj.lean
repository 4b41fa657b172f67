/-! what was, on both sides -/
theorem TW_ext {w w' : Nat → Int32} (h : ∀ k, (k < 5 ∨ (6 ≤ k ∧ k < 232) ∨ (241 ≤ k ∧ k < 287)) → w' k = w k) : TW w' = TW w := by
  funext c j
  unfold TW
  by_cases hk : okC c j = true
  · rw [if_pos hk, if_pos hk]
    have h5 := okC_lt hk
    unfold okC at hk
    split at hk
    · rcases eight (h5.1 rfl) with rfl | rfl | rfl | rfl | rfl | rfl | rfl | rfl <;> exact h _ (by decide)
    · exact h _ (by have := h5.2.1 rfl; omega)
    · exact h _ (by have := h5.2.2.1 rfl; omega)
    · show (w' 6 >>> iN j) &&& 1 = (w 6 >>> iN j) &&& 1
      rw [h 6 (by decide)]
    · exact h _ (by have := h5.2.2.2.2.1 rfl; omega)
    · exact h _ (by have := h5.2.2.2.2.2.1 rfl; omega)
    · exact h _ (by have := h5.2.2.2.2.2.2.1 rfl; omega)
    · exact h _ (by have := h5.2.2.2.2.2.2.2.1 rfl; omega)
    · exact h _ (by have := h5.2.2.2.2.2.2.2.2.1 rfl; omega)
    · exact h _ (by have := h5.2.2.2.2.2.2.2.2.2 rfl; omega)
    · cases hk
  · rw [if_neg hk, if_neg hk]
def mix (bk w : Nat → Int32) (i k : Nat) : Int32 := if k < 229 then bk (229 * i + k) else w k
def PE (B : Nat) (M : Mem) (a i m : Nat) : Prop := TC M a = TW (mix (M.1 103 0) (M.1 101 0) i) ∧ VT B (TC M a) ∧ (∃ k : Nat, k < 2 ^ ix (TC M a 20 6) ∧ M.1 103 0 (229 * i + 6) = iN k) ∧ m ≤ 150 ∧ M.1 30 a 0 = iN m ∧ M.1 103 0 (229 * i + 5) = iN m ∧ ∀ j, j < 4 * m → M.1 31 a j = M.1 101 0 (645 + j)
/-- the cells of the row that a past entry shares with the present -/
def ShW (W W2 : Nat → Int32) (lc : Nat) : Prop := (∀ k, (229 ≤ k ∧ k < 232) ∨ (241 ≤ k ∧ k < 287) → W2 k = W k) ∧ ∀ j, j < 4 * lc → W2 (645 + j) = W (645 + j)
theorem PE.move {B : Nat} {M M2 : Mem} {a i i2 m lc : Nat} (h : PE B M a i m) (hm : m ≤ lc) (hs : ShW (M.1 101 0) (M2.1 101 0) lc) (hb : ∀ k, k < 229 → M2.1 103 0 (229 * i2 + k) = M.1 103 0 (229 * i + k)) (hc : ∀ c, 20 ≤ c → c < 32 → M2.1 c a = M.1 c a) : PE B M2 a i2 m := by
  obtain ⟨h1, h2, ⟨k, h3, h4⟩, h5, h6, h7, h8⟩ := h
  have eT : TC M2 a = TC M a := TC_of (fun c q1 q2 => hc c q1 (by omega))
  refine ⟨?_, by rw [eT]; exact h2, ⟨k, by rw [eT]; exact h3, by rw [hb 6 (by decide)]; exact h4⟩, h5, by rw [hc 30 (by decide) (by decide)]; exact h6, by rw [hb 5 (by decide)]; exact h7, fun j hj => by rw [hc 31 (by decide) (by decide), hs.2 j (by omega)]; exact h8 j hj⟩
  rw [eT, h1]
  refine TW_ext (fun k hk => ?_)
  unfold mix
  by_cases hk2 : k < 229
  · rw [if_pos hk2, if_pos hk2, hb k hk2]
  · rw [if_neg hk2, if_neg hk2, hs.1 k (by omega)]
def PastJ (B : Nat) (M : Mem) (n m j nx lc : Nat) : Prop :=
  n ≤ 6 ∧ m ≤ 6 ∧ nx < 6 ∧ j ≤ n ∧ j ≤ m ∧ M.1 8 0 0 = iN n ∧ M.1 100 0 4 = iN m ∧ M.1 8 0 1 = iN nx ∧ ∃ ms : Nat → Nat, (∀ t, t < j → PE B M (2 + (nx + 5 - t) % 6) (m - 1 - t) (ms t) ∧ ms t ≤ lc) ∧ ∀ t u, t ≤ u → u < j → ms u ≤ ms t
theorem PastJ.frame {B : Nat} {M M2 : Mem} {n m j nx lc lc2 : Nat} (h : PastJ B M n m j nx lc) (hl : lc ≤ lc2) (hs : ShW (M.1 101 0) (M2.1 101 0) lc) (h0 : M2.1 8 0 0 = M.1 8 0 0) (h1 : M2.1 8 0 1 = M.1 8 0 1) (h4 : M2.1 100 0 4 = M.1 100 0 4) (hb : M2.1 103 0 = M.1 103 0) (hc : ∀ c a, 20 ≤ c → c < 32 → 2 ≤ a → a < 8 → M2.1 c a = M.1 c a) : PastJ B M2 n m j nx lc2 := by
  obtain ⟨a1, a2, a3, a4, a5, a6, a7, a8, ms, b1, b2⟩ := h
  refine ⟨a1, a2, a3, a4, a5, by rw [h0]; exact a6, by rw [h4]; exact a7, by rw [h1]; exact a8, ms, fun t ht => ?_, b2⟩
  obtain ⟨p1, p2⟩ := b1 t ht
  exact ⟨p1.move p2 hs (fun k _ => by rw [hb]) (fun c q1 q2 => hc c _ q1 q2 (by omega) (by omega)), by omega⟩
theorem PastJ.none {B : Nat} {M : Mem} {nx lc : Nat} (hx : nx < 6) (h0 : M.1 8 0 0 = 0) (h4 : M.1 100 0 4 = 0) (h1 : M.1 8 0 1 = iN nx) : PastJ B M 0 0 0 nx lc := ⟨by decide, by decide, hx, by decide, by decide, h0, h4, h1, fun _ => 0, fun t ht => absurd ht (by omega), fun t u _ hu => absurd hu (by omega)⟩
theorem PastJ.mono {B B2 : Nat} {M : Mem} {n m j nx lc : Nat} (h : PastJ B M n m j nx lc) (hb : B ≤ B2) : PastJ B2 M n m j nx lc := by
  obtain ⟨a1, a2, a3, a4, a5, a6, a7, a8, ms, b1, b2⟩ := h
  refine ⟨a1, a2, a3, a4, a5, a6, a7, a8, ms, fun t ht => ?_, b2⟩
  obtain ⟨⟨p1, ⟨n5, n6, n7, p2⟩, p3⟩, p4⟩ := b1 t ht
  exact ⟨⟨p1, ⟨n5, n6, n7, p2.mono hb⟩, p3⟩, p4⟩
/-- the land of today, as both hold it -/
def WldL (B : Nat) (M : Mem) (lc : Nat) : Prop := TC M 0 = TM M ∧ VT B (TM M) ∧ (∃ k : Nat, k < 2 ^ ix (TM M 20 6) ∧ M.1 101 0 6 = iN k) ∧ BookR M 0 (M.1 101 0) lc
theorem PastJ.keep {B : Nat} {M M2 : Mem} {n m j nx lc lc2 : Nat} (h : PastJ B M n m j nx lc) (hw : WldL B M lc) (hl : lc ≤ lc2) (hs : ShW (M.1 101 0) (M2.1 101 0) lc)
    (h0 : M2.1 8 0 0 = iN (min 6 (n + 1))) (h1 : M2.1 8 0 1 = iN ((nx + 1) % 6)) (h4 : M2.1 100 0 4 = iN (min 6 (m + 1)))
    (hT : TC M2 (2 + nx) = TC M 0) (hB : M2.1 30 (2 + nx) 0 = M.1 30 0 0) (hP : ∀ j, j < 600 → M2.1 31 (2 + nx) j = M.1 31 0 j)
    (hb0 : ∀ k, k < 229 → M2.1 103 0 (229 * (min 6 (m + 1) - 1) + k) = M.1 101 0 k)
    (hb : ∀ t k, 1 ≤ t → t < min 6 (m + 1) → k < 229 → M2.1 103 0 (229 * (min 6 (m + 1) - 1 - t) + k) = M.1 103 0 (229 * (m - t) + k))
    (hc : ∀ c a, 20 ≤ c → c < 32 → 2 ≤ a → a < 8 → a ≠ 2 + nx → M2.1 c a = M.1 c a) : PastJ B M2 (min 6 (n + 1)) (min 6 (m + 1)) (min 6 (j + 1)) ((nx + 1) % 6) lc2 := by
  obtain ⟨a1, a2, a3, a4, a5, a6, a7, a8, ms, b1, b2⟩ := h
  obtain ⟨g1, g2, ⟨k, g3, g4⟩, g5, g6, g7, g8⟩ := hw
  refine ⟨by omega, by omega, by omega, by omega, by omega, h0, h4, h1, fun t => if t = 0 then lc else ms (t - 1), fun t ht => ?_, fun t u htu hu => ?_⟩
  · show PE B M2 _ _ (if t = 0 then lc else ms (t - 1)) ∧ (if t = 0 then lc else ms (t - 1)) ≤ lc2
    by_cases ht0 : t = 0
    · subst ht0
      rw [if_pos rfl, show 2 + ((nx + 1) % 6 + 5 - 0) % 6 = 2 + nx by omega, Nat.sub_zero]
      refine ⟨⟨?_, by rw [hT, g1]; exact g2, ⟨k, by rw [hT, g1]; exact g3, by rw [hb0 6 (by decide)]; exact g4⟩, g5, by rw [hB]; exact g6, by rw [hb0 5 (by decide)]; exact g7, fun j hj => by rw [hP j (by omega), hs.2 j hj]; exact g8 j hj⟩, hl⟩
      rw [hT, g1]
      refine (TW_ext (fun k hk => ?_)).symm
      unfold mix
      by_cases hk2 : k < 229
      · rw [if_pos hk2, hb0 k hk2]
      · rw [if_neg hk2, hs.1 k (by omega)]
    · rw [if_neg ht0]
      obtain ⟨p1, p2⟩ := b1 (t - 1) (by omega)
      rw [show 2 + ((nx + 1) % 6 + 5 - t) % 6 = 2 + (nx + 5 - (t - 1)) % 6 by omega]
      refine ⟨p1.move p2 hs (fun k hk => ?_) (fun c q1 q2 => hc c _ q1 q2 (by omega) (by omega) (by omega)), by omega⟩
      rw [hb t k (by omega) (by omega) hk, show m - 1 - (t - 1) = m - t by omega]
  · show (if u = 0 then lc else ms (u - 1)) ≤ (if t = 0 then lc else ms (t - 1))
    by_cases hu0 : u = 0
    · rw [if_pos hu0, if_pos (by omega)]
      exact Nat.le_refl _
    · rw [if_neg hu0]
      by_cases ht0 : t = 0
      · rw [if_pos ht0]
        exact (b1 (u - 1) (by omega)).2
      · rw [if_neg ht0]
        exact b2 (t - 1) (u - 1) (by omega) (by omega)
