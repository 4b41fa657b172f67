/-! the invariant and the tape's ops, and texts -/
theorem Inv.low {B : Nat} {M : Mem} (h : Inv B M) : TapeR M ∧ WtR M ∧ FtE M := by
  obtain ⟨n, nx, lc, L, C, S, n5, n6, n7, t1, t2, t3, t4, t5, h1, h2, h3, h4, h5, h6, h7, h8, -⟩ := h
  exact ⟨h6, h7, h8⟩
theorem Inv.tape {B : Nat} {M M2 : Mem} {P : Nat → Nat → Nat → Prop} (h : Inv B M) (k : K3 P M M2) (hq : ∀ c a j, P c a j → QtP c a j) (h1 : ¬ P 3 0 11) (h2 : ¬ P 3 0 13) (h3 : ¬ P 3 0 14) (h4 : ¬ P 100 0 23) (h5 : ¬ P 100 0 25) (hT : TapeR M2) : Inv B M2 := by
  obtain ⟨-, ⟨w, hw, h11⟩, f1, f2⟩ := h.low
  exact h.quiet (k3_sub k hq) hT ⟨w, hw, by rw [k 3 0 11 h1]; exact h11⟩ ⟨by rw [k 3 0 13 h2, k 100 0 23 h4]; exact f1, by rw [k 3 0 14 h3, k 100 0 25 h5]; exact f2⟩
theorem inv108 {X : Cx} {d B : Nat} {M : Mem} {q : Int32} (h : Inv B M) : ∃ (x : Int32) (M1 M2 : Mem), CC X (d + 2) 108 [vR 2 0, vI q] M (some (vI x)) M1 ∧ CC X (d + 2) 167 [vR 100 0, vI q] M1 (some (vI x)) M2 ∧ Inv B M2 := by
  obtain ⟨x, M1, M2, p1, p2, p3, p4⟩ := op108 (X := X) (d := d) (q := q) h.low.1
  exact ⟨x, M1, M2, p1, p2, h.tape p4 (fun c a j z => by simp only [QtP]; omega) (by omega) (by omega) (by omega) (by omega) (by omega) p3⟩
theorem inv107 {X : Cx} {d B : Nat} {M : Mem} {a b c e f : Int32} (h : Inv B M) : ∃ (x : Int32) (M1 M2 : Mem), CC X (d + 2) 107 [vR 2 0, vI a, vI b, vI c, vI e, vI f] M (some (vI x)) M1 ∧ CC X (d + 2) 166 [vR 100 0, vI a, vI b, vI c, vI e, vI f] M1 (some (vI x)) M2 ∧ Inv B M2 := by
  obtain ⟨x, M1, M2, p1, p2, p3, p4⟩ := op107 (X := X) (d := d) (a := a) (b := b) (c := c) (e := e) (f := f) h.low.1
  exact ⟨x, M1, M2, p1, p2, h.tape p4 (fun c a j z => by simp only [QtP]; omega) (by omega) (by omega) (by omega) (by omega) (by omega) p3⟩
theorem TapeR.nil {M : Mem} (h1 : M.1 3 0 7 = 0) (h2 : M.1 100 0 16 = 0) : TapeR M := ⟨0, by decide, h1, h2, fun j hj => absurd hj (by omega)⟩
theorem TxA_q : ∀ c a j, TxA c a j → QtP c a j := fun c a j h => by simp only [TxA, TxP, TyP] at h; simp only [QtP]; omega
theorem inv109_none {X : Cx} {d B : Nat} {M : Mem} {q : Int32} (hX : StrOk X) (h : Inv B M) (hq : q < 0 ∨ ¬ q ≤ 3) : ∃ (x : Int32) (M1 M2 : Mem), CC X (d + 41) 109 [vR 2 0, vI q] M (some (vI x)) M1 ∧ CC X (d + 41) 200 [vR 100 0, vI q] M1 (some (vI x)) M2 ∧ Inv B M2 := by
  obtain ⟨M1, M2, p1, p2, p3, p4, p5, p6, p7⟩ := text_none (X := X) (d := d) hX h.low.1 h.low.2.1 hq
  exact ⟨_, M1, M2, p1, p2, h.quiet (k3_sub p7 TxA_q) (TapeR.nil p5 p6) p4 p3⟩
/-- a new law, or new plans: all else as it was -/
theorem inv109_law {X : Cx} {d B : Nat} {M : Mem} (hX : StrOk X) (h : Inv B M) : ∃ (x : Int32) (M1 M2 : Mem), CC X (d + 41) 109 [vR 2 0, vI 0] M (some (vI x)) M1 ∧ CC X (d + 41) 200 [vR 100 0, vI 0] M1 (some (vI x)) M2 ∧ Inv B M2 := by
  obtain ⟨x, M1, M2, p1, p2, p3, p4, p5, p6, p7⟩ := text_laws (X := X) (d := d) hX h.low.1 h.low.2.1
  refine ⟨x, M1, M2, p1, p2, ?_⟩
  rcases p7 with p7 | ⟨k, L', hL⟩
  · exact h.quiet (k3_sub p7 TxA_q) (TapeR.nil p5 p6) p4 p3
  · have e : ∀ c a j, (8 ≤ c ∧ c < 40) ∨ (40 ≤ c ∧ c < 60 ∧ 2 ≤ a) ∨ (47 ≤ c ∧ c < 60 ∧ a = 0) ∨ (60 ≤ c ∧ c < 100) → M2.1 c a j = M.1 c a j := fun c a j h => k c a j (by simp only [TxA, TxP, TyP]; omega)
    have e101 : ∀ j, ¬ (j = 232 ∨ (1245 ≤ j ∧ j < 2129)) → M2.1 101 0 j = M.1 101 0 j := fun j hj => k 101 0 j (by simp only [TxA, TxP, TyP]; omega)
    have e102 : M2.1 102 0 = M.1 102 0 := k3_col k (fun _ => by simp only [TxA, TxP, TyP]; omega)
    have e103 : M2.1 103 0 = M.1 103 0 := k3_col k (fun _ => by simp only [TxA, TxP, TyP]; omega)
    obtain ⟨n, nx, lc, L, C, S, n5, n6, n7, t1, t2, t3, t4, t5, h1, h2, h3, h4, h5, -, -, -, h9, h10, h11, h12⟩ := h
    have hlc : lc ≤ 150 := by
      have := h1.2.2.2.1
      omega
    refine ⟨n, nx, lc, L', C, S, n5, n6, n7, t1, t2, t3, t4, t5, h1.cp (Nat.le_refl _) (TC_eq (fun c j x y => e c 0 j (by omega))) (e 30 0 0 (by omega)) (fun j _ => e 31 0 j (by omega)) (fun k hk => e101 k (by omega)), hL, h3.cp (fun j _ => e 50 0 j (by omega)) (fun c j _ _ _ => e c 0 j (by omega)) (fun j _ => e 59 0 j (by omega)) (fun k hk => e101 k (by omega)),
      h4.cp ⟨e 80 0 0 (by omega), fun j _ => ⟨e 81 0 j (by omega), e 82 0 j (by omega)⟩⟩ ⟨e 83 0 0 (by omega), fun j _ => ⟨e 84 0 j (by omega), e 85 0 j (by omega)⟩⟩ ⟨e 86 0 0 (by omega), fun j _ => ⟨e 87 0 j (by omega), e 88 0 j (by omega)⟩⟩ ⟨e 89 0 0 (by omega), fun j _ => ⟨e 90 0 j (by omega), e 91 0 j (by omega)⟩⟩ ⟨e 92 0 0 (by omega), fun j _ => ⟨e 93 0 j (by omega), e 94 0 j (by omega)⟩⟩ (fun j _ => e 71 0 j (by omega)) (fun j _ => e 72 0 j (by omega)) (fun k hk => e101 k (by omega)),
      h5.frame (Nat.le_refl _) ⟨fun k hk => e101 k (by omega), fun j hj => e101 _ (by omega)⟩ (e 8 0 0 (by omega)) (e 8 0 1 (by omega)) (k 100 0 4 (by simp only [TxA, TxP, TyP]; omega)) e103 (fun c a x y _ _ => funext fun j => e c a j (by omega)), TapeR.nil p5 p6, p4, p3, by rw [e 11 0 3 (by omega)]; exact h9, by rw [e 11 1 3 (by omega)]; exact h10, by rw [e 30 1 0 (by omega)]; exact h11, ?_⟩
    rcases h12 with ⟨y1, y2⟩ | ⟨y1, y2, y3⟩
    · exact Or.inl ⟨by rw [e 10 0 0 (by omega)]; exact y1, by rw [k 100 0 5 (by simp only [TxA, TxP, TyP]; omega)]; exact y2⟩
    · refine Or.inr ⟨by rw [e 10 0 0 (by omega)]; exact y1, by rw [k 100 0 5 (by simp only [TxA, TxP, TyP]; omega)]; exact y2, ?_⟩
      obtain ⟨lc', m5, m6, m7, L', C', S', s1, s2, s3, s4, s5, z1, z2, z3, z4⟩ := y3
      rw [e102]
      exact ⟨lc', m5, m6, m7, L', C', S', s1, s2, s3, s4, s5, z1.cp (Nat.le_refl _) (TC_eq (fun c j x y => e c 8 j (by omega))) (e 30 8 0 (by omega)) (fun j _ => e 31 8 j (by omega)) (fun _ _ => rfl), z2.cp (e 40 2 0 (by omega)) (fun c j _ _ _ => e c 2 j (by omega)) (fun j _ => e 46 2 j (by omega)) (fun _ _ => rfl), z3.cp (fun j _ => e 50 2 j (by omega)) (fun c j _ _ _ => e c 2 j (by omega)) (fun j _ => e 59 2 j (by omega)) (fun _ _ => rfl), z4.cp ⟨e 80 1 0 (by omega), fun j _ => ⟨e 81 1 j (by omega), e 82 1 j (by omega)⟩⟩ ⟨e 83 1 0 (by omega), fun j _ => ⟨e 84 1 j (by omega), e 85 1 j (by omega)⟩⟩ ⟨e 86 1 0 (by omega), fun j _ => ⟨e 87 1 j (by omega), e 88 1 j (by omega)⟩⟩ ⟨e 89 1 0 (by omega), fun j _ => ⟨e 90 1 j (by omega), e 91 1 j (by omega)⟩⟩ ⟨e 92 1 0 (by omega), fun j _ => ⟨e 93 1 j (by omega), e 94 1 j (by omega)⟩⟩ (fun j _ => e 71 1 j (by omega)) (fun j _ => e 72 1 j (by omega)) (fun _ _ => rfl)⟩
