/-! parts of the plans, kept -/
theorem Cl_cp {M M2 : Mem} {C : Cl} {W W2 : Nat → Int32} {n5 n6 n7 : Nat} (h1 : ClC M 0 C) (h2 : ClM W C) (h3 : ClT C n5 n6 n7) (e0 : M2.1 50 0 0 = M.1 50 0 0) (e : ∀ c j, 53 ≤ c → c < 57 → M2.1 c 0 j = M.1 c 0 j) (ew : ∀ k, k = 233 ∨ (287 ≤ k ∧ k < 431) → W2 k = W k) : ClC M2 0 C ∧ ClM W2 C := by
  have l := h3.1
  refine ⟨⟨by rw [e0]; exact h1.1, fun i y p R k e' hi => ?_⟩, ⟨by rw [ew _ (Or.inl rfl)]; exact h2.1, fun i y p R k e' hi => ?_⟩⟩
  · rw [e 53 i (by decide) (by decide), e 54 i (by decide) (by decide), e 55 i (by decide) (by decide), e 56 i (by decide) (by decide)]
    exact h1.2 i y p R k e' hi
  · have hil : i < C.length := (List.getElem?_eq_some_iff.mp hi).1
    obtain ⟨-, -, -, k6, -⟩ := h3.2 i y p R k e' hi
    obtain ⟨a1, a2, a3, a4, a5⟩ := h2.2 i y p R k e' hi
    exact ⟨by rw [ew _ (by omega)]; exact a1, by rw [ew _ (by omega)]; exact a2, by rw [ew _ (by omega)]; exact a3, fun j hj => by rw [ew _ (by omega)]; exact a4 j hj, fun j x1 x2 => by rw [ew _ (by omega)]; exact a5 j x1 x2⟩
theorem Sk_cp {M M2 : Mem} {S : Sk} {W W2 : Nat → Int32} (h1 : SkC M 0 S) (h2 : SkM W S) (h3 : SkT S) (e0 : M2.1 50 0 1 = M.1 50 0 1) (e : ∀ c j, 57 ≤ c → c < 59 → M2.1 c 0 j = M.1 c 0 j) (ew : ∀ k, k = 234 ∨ (431 ≤ k ∧ k < 479) → W2 k = W k) : SkC M2 0 S ∧ SkM W2 S := by
  have l := h3.1
  refine ⟨⟨by rw [e0]; exact h1.1, fun i y s hi => ?_⟩, ⟨by rw [ew _ (Or.inl rfl)]; exact h2.1, fun i y s hi => ?_⟩⟩
  · rw [e 57 i (by decide) (by decide), e 58 i (by decide) (by decide)]
    exact h1.2 i y s hi
  · have hil : i < S.length := (List.getElem?_eq_some_iff.mp hi).1
    rw [ew _ (by omega), ew _ (by omega), ew _ (by omega)]
    exact h2.2 i y s hi
theorem Wy_cp {M M2 : Mem} {W W2 : Nat → Int32} (h1 : WayR M 0 W) (h2 : M.1 50 0 2 = W 235) (h3 : ∀ i j, i < 8 → j < 8 → M.1 59 0 (8 * i + j) = M.1 59 0 (8 * j + i)) (e0 : M2.1 50 0 2 = M.1 50 0 2) (e : ∀ j, M2.1 59 0 j = M.1 59 0 j) (ew : ∀ k, k = 235 ∨ (479 ≤ k ∧ k < 543) → W2 k = W k) : WayR M2 0 W2 ∧ M2.1 50 0 2 = W2 235 ∧ ∀ i j, i < 8 → j < 8 → M2.1 59 0 (8 * i + j) = M2.1 59 0 (8 * j + i) := by
  refine ⟨fun i j hi hj => ?_, by rw [e0, ew _ (Or.inl rfl)]; exact h2, fun i j hi hj => by rw [e, e]; exact h3 i j hi hj⟩
  rw [e, ew _ (by omega)]
  exact h1 i j hi hj
