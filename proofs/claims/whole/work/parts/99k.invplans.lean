/-! the invariant, kept by texts of plans -/
abbrev PnP : Nat → Nat → Nat → Prop := fun c a j => TxA c a j ∨ (a = 0 ∧ (c = 50 ∨ (53 ≤ c ∧ c < 60) ∨ (c = 8 ∧ j = 0) ∨ (c = 100 ∧ j = 4) ∨ (c = 101 ∧ ((233 ≤ j ∧ j < 236) ∨ (287 ≤ j ∧ j < 543)))))
theorem Inv.plans {B : Nat} {M M2 : Mem} (h : Inv B M) (k : K3 PnP M M2) (hT : TapeR M2) (hW : WtR M2) (hF : FtE M2) (hp : (M2.1 8 0 0 = M.1 8 0 0 ∧ M2.1 100 0 4 = M.1 100 0 4) ∨ (M2.1 8 0 0 = 0 ∧ M2.1 100 0 4 = 0)) (hP : ∀ C S n5 n6 n7, n5 ≤ 10 ∧ n6 ≤ 8 ∧ n7 ≤ 12 → PlS M 0 (M.1 101 0) C S n5 n6 n7 → M.1 20 0 5 = iN n5 → M.1 20 0 6 = iN n6 → M.1 20 0 7 = iN n7 → ∃ C' S', PlS M2 0 (M2.1 101 0) C' S' n5 n6 n7) (hn : ∀ lc n5 n6 n7, LdS B M 0 (M.1 101 0) lc n5 n6 n7 → M.1 20 0 5 = iN n5 ∧ M.1 20 0 6 = iN n6 ∧ M.1 20 0 7 = iN n7) : Inv B M2 := by
  have e : ∀ c a j, (9 ≤ c ∧ c < 40) ∨ (c = 8 ∧ j ≠ 0) ∨ (40 ≤ c ∧ c < 47 ∧ a ≠ 1) ∨ (47 ≤ c ∧ c < 60 ∧ 2 ≤ a) ∨ (60 ≤ c ∧ c < 100) → M2.1 c a j = M.1 c a j := fun c a j h => k c a j (by simp only [PnP, TxA, TxP, TyP]; omega)
  have e101 : ∀ j, ¬ ((233 ≤ j ∧ j < 236) ∨ (287 ≤ j ∧ j < 543)) → M2.1 101 0 j = M.1 101 0 j := fun j hj => k 101 0 j (by simp only [PnP, TxA, TxP, TyP]; omega)
  have e102 : M2.1 102 0 = M.1 102 0 := k3_col k (fun _ => by simp only [PnP, TxA, TxP, TyP]; omega)
  have e103 : M2.1 103 0 = M.1 103 0 := k3_col k (fun _ => by simp only [PnP, TxA, TxP, TyP]; omega)
  obtain ⟨n, nx, lc, L, C, S, n5, n6, n7, t1, t2, t3, t4, t5, h1, h2, h3, h4, h5, -, -, -, h9, h10, h11, h12⟩ := h
  have hlc : lc ≤ 150 := h1.2.2.2.1
  obtain ⟨c5, c6, c7⟩ := hn lc n5 n6 n7 h1
  obtain ⟨C', S', g3⟩ := hP C S n5 n6 n7 ⟨h1.2.1.1, h1.2.1.2.1, h1.2.1.2.2.1⟩ h3 c5 c6 c7
  have hpast : ∃ n', PastJ B M2 n' n' n' nx lc := by
    rcases hp with ⟨y1, y2⟩ | ⟨y1, y2⟩
    · exact ⟨n, h5.frame (Nat.le_refl _) ⟨fun k hk => e101 k (by omega), fun j hj => e101 _ (by omega)⟩ y1 (e 8 0 1 (by omega)) y2 e103 (fun c a x y _ _ => funext fun j => e c a j (by omega))⟩
    · exact ⟨0, PastJ.none h5.2.2.1 y1 y2 (by rw [e 8 0 1 (by omega)]; exact h5.2.2.2.2.2.2.2.1)⟩
  obtain ⟨n', g5⟩ := hpast
  refine ⟨n', nx, lc, L, C', S', n5, n6, n7, t1, t2, t3, t4, t5, h1.cp (Nat.le_refl _) (TC_eq (fun c j x y => e c 0 j (by omega))) (e 30 0 0 (by omega)) (fun j _ => e 31 0 j (by omega)) (fun k hk => e101 k (by omega)), h2.cp (e 40 0 0 (by omega)) (fun c j _ _ _ => e c 0 j (by omega)) (fun j _ => e 46 0 j (by omega)) (fun k hk => e101 k (by omega)), g3,
    h4.cp ⟨e 80 0 0 (by omega), fun j _ => ⟨e 81 0 j (by omega), e 82 0 j (by omega)⟩⟩ ⟨e 83 0 0 (by omega), fun j _ => ⟨e 84 0 j (by omega), e 85 0 j (by omega)⟩⟩ ⟨e 86 0 0 (by omega), fun j _ => ⟨e 87 0 j (by omega), e 88 0 j (by omega)⟩⟩ ⟨e 89 0 0 (by omega), fun j _ => ⟨e 90 0 j (by omega), e 91 0 j (by omega)⟩⟩ ⟨e 92 0 0 (by omega), fun j _ => ⟨e 93 0 j (by omega), e 94 0 j (by omega)⟩⟩ (fun j _ => e 71 0 j (by omega)) (fun j _ => e 72 0 j (by omega)) (fun k hk => e101 k (by omega)),
    g5, hT, hW, hF, by rw [e 11 0 3 (by omega)]; exact h9, by rw [e 11 1 3 (by omega)]; exact h10, by rw [e 30 1 0 (by omega)]; exact h11, ?_⟩
  rcases h12 with ⟨y1, y2⟩ | ⟨y1, y2, y3⟩
  · exact Or.inl ⟨by rw [e 10 0 0 (by omega)]; exact y1, by rw [k 100 0 5 (by simp only [PnP, TxA, TxP, TyP]; omega)]; exact y2⟩
  · refine Or.inr ⟨by rw [e 10 0 0 (by omega)]; exact y1, by rw [k 100 0 5 (by simp only [PnP, TxA, TxP, TyP]; omega)]; exact y2, ?_⟩
    obtain ⟨lc', m5, m6, m7, L', C', S', s1, s2, s3, s4, s5, z1, z2, z3, z4⟩ := y3
    rw [e102]
    exact ⟨lc', m5, m6, m7, L', C', S', s1, s2, s3, s4, s5, z1.cp (Nat.le_refl _) (TC_eq (fun c j x y => e c 8 j (by omega))) (e 30 8 0 (by omega)) (fun j _ => e 31 8 j (by omega)) (fun _ _ => rfl), z2.cp (e 40 2 0 (by omega)) (fun c j _ _ _ => e c 2 j (by omega)) (fun j _ => e 46 2 j (by omega)) (fun _ _ => rfl), z3.cp (fun j _ => e 50 2 j (by omega)) (fun c j _ _ _ => e c 2 j (by omega)) (fun j _ => e 59 2 j (by omega)) (fun _ _ => rfl), z4.cp ⟨e 80 1 0 (by omega), fun j _ => ⟨e 81 1 j (by omega), e 82 1 j (by omega)⟩⟩ ⟨e 83 1 0 (by omega), fun j _ => ⟨e 84 1 j (by omega), e 85 1 j (by omega)⟩⟩ ⟨e 86 1 0 (by omega), fun j _ => ⟨e 87 1 j (by omega), e 88 1 j (by omega)⟩⟩ ⟨e 89 1 0 (by omega), fun j _ => ⟨e 90 1 j (by omega), e 91 1 j (by omega)⟩⟩ ⟨e 92 1 0 (by omega), fun j _ => ⟨e 93 1 j (by omega), e 94 1 j (by omega)⟩⟩ (fun j _ => e 71 1 j (by omega)) (fun j _ => e 72 1 j (by omega)) (fun _ _ => rfl)⟩
