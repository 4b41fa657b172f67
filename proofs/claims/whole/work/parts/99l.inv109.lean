/-! texts of plans keep the invariant -/
theorem LdS.cnt {B : Nat} {M : Mem} {lc n5 n6 n7 : Nat} {W : Nat → Int32} (h : LdS B M 0 W lc n5 n6 n7) : M.1 20 0 5 = iN n5 ∧ M.1 20 0 6 = iN n6 ∧ M.1 20 0 7 = iN n7 := by
  have g := h.1
  obtain ⟨-, -, -, a1, a2, a3, -⟩ := h.2.1
  rw [← g] at a1 a2 a3
  exact ⟨a1, a2, a3⟩
theorem inv109_sky {X : Cx} {d B : Nat} {M : Mem} (hX : StrOk X) (h : Inv B M) : ∃ (x : Int32) (M1 M2 : Mem), CC X (d + 41) 109 [vR 2 0, vI 2] M (some (vI x)) M1 ∧ CC X (d + 41) 200 [vR 100 0, vI 2] M1 (some (vI x)) M2 ∧ Inv B M2 := by
  obtain ⟨x, M1, M2, p1, p2, p3, p4, p5, p6, p7⟩ := text_sky (X := X) (d := d) hX h.low.1 h.low.2.1
  refine ⟨x, M1, M2, p1, p2, ?_⟩
  rcases p7 with p7 | ⟨k, q1, q2, S', s1, s2, s3⟩
  · exact h.quiet (k3_sub p7 TxA_q) (TapeR.nil p5 p6) p4 p3
  · refine h.plans (k3_sub k (fun c a j z => by rcases z with z | z; exact Or.inl z; exact Or.inr (by omega))) (TapeR.nil p5 p6) p4 p3 (Or.inr ⟨q1, q2⟩) (fun C S n5 n6 n7 _ hP _ _ _ => ?_) (fun lc n5 n6 n7 hl => hl.cnt)
    obtain ⟨g1, g2, g3, g4, g5, g6, g7, g8, g9⟩ := hP
    obtain ⟨c1, c2⟩ := Cl_cp (M2 := M2) (W2 := M2.1 101 0) g1 g2 g3 (k 50 0 0 (by simp only [TxA, TxP, TyP]; omega)) (fun c j x y => k c 0 j (by simp only [TxA, TxP, TyP]; omega)) (fun j hj => k 101 0 j (by simp only [TxA, TxP, TyP]; omega))
    obtain ⟨w1, w2, w3⟩ := Wy_cp (M2 := M2) (W2 := M2.1 101 0) g7 g8 g9 (k 50 0 2 (by simp only [TxA, TxP, TyP]; omega)) (fun j => k 59 0 j (by simp only [TxA, TxP, TyP]; omega)) (fun j hj => k 101 0 j (by simp only [TxA, TxP, TyP]; omega))
    exact ⟨C, S', c1, c2, g3, s1, s2, s3, w1, w2, w3⟩
theorem LdS.cntW {B : Nat} {M : Mem} {lc n5 n6 n7 : Nat} {W : Nat → Int32} (h : LdS B M 0 W lc n5 n6 n7) : n5 ≤ 10 ∧ n6 ≤ 8 ∧ n7 ≤ 12 ∧ W 229 = iN n5 ∧ W 230 = iN n6 ∧ W 231 = iN n7 := by
  obtain ⟨b1, b2, b3, a1, a2, a3, -⟩ := h.2.1
  exact ⟨b1, b2, b3, a1, a2, a3⟩
theorem inv109_ways {X : Cx} {d B : Nat} {M : Mem} (hX : StrOk X) (h : Inv B M) : ∃ (x : Int32) (M1 M2 : Mem), CC X (d + 41) 109 [vR 2 0, vI 3] M (some (vI x)) M1 ∧ CC X (d + 41) 200 [vR 100 0, vI 3] M1 (some (vI x)) M2 ∧ Inv B M2 := by
  have h0 := h
  obtain ⟨n, nx, lc, L, C0, S0, n5, n6, n7, t1, t2, t3, t4, t5, h1, -⟩ := h0
  obtain ⟨b1, b2, b3, a1, a2, a3⟩ := h1.cntW
  obtain ⟨x, M1, M2, p1, p2, p3, p4, p5, p6, p7⟩ := text_ways (X := X) (d := d) hX h.low.1 h.low.2.1 b2 h1.cnt.2.1 a2
  refine ⟨x, M1, M2, p1, p2, ?_⟩
  rcases p7 with p7 | ⟨k, s1, s2, s3⟩
  · exact h.quiet (k3_sub p7 TxA_q) (TapeR.nil p5 p6) p4 p3
  · refine h.plans (k3_sub k (fun c a j z => by rcases z with z | z; exact Or.inl z; exact Or.inr (by omega))) (TapeR.nil p5 p6) p4 p3 (Or.inl ⟨k 8 0 0 (by simp only [TxA, TxP, TyP]; omega), k 100 0 4 (by simp only [TxA, TxP, TyP]; omega)⟩) (fun C S n5 n6 n7 _ hP _ _ _ => ?_) (fun lc n5 n6 n7 hl => hl.cnt)
    obtain ⟨g1, g2, g3, g4, g5, g6, g7, g8, g9⟩ := hP
    obtain ⟨c1, c2⟩ := Cl_cp (M2 := M2) (W2 := M2.1 101 0) g1 g2 g3 (k 50 0 0 (by simp only [TxA, TxP, TyP]; omega)) (fun c j x y => k c 0 j (by simp only [TxA, TxP, TyP]; omega)) (fun j hj => k 101 0 j (by simp only [TxA, TxP, TyP]; omega))
    obtain ⟨w1, w2⟩ := Sk_cp (M2 := M2) (W2 := M2.1 101 0) g4 g5 g6 (k 50 0 1 (by simp only [TxA, TxP, TyP]; omega)) (fun c j x y => k c 0 j (by simp only [TxA, TxP, TyP]; omega)) (fun j hj => k 101 0 j (by simp only [TxA, TxP, TyP]; omega))
    exact ⟨C, S, c1, c2, g3, w1, w2, g6, s1, s2, s3⟩
theorem inv109_calls {X : Cx} {d B : Nat} {M : Mem} (hX : StrOk X) (h : Inv B M) : ∃ (x : Int32) (M1 M2 : Mem), CC X (d + 41) 109 [vR 2 0, vI 1] M (some (vI x)) M1 ∧ CC X (d + 41) 200 [vR 100 0, vI 1] M1 (some (vI x)) M2 ∧ Inv B M2 := by
  have h0 := h
  obtain ⟨n, nx, lc, L, C0, S0, m5, m6, m7, t1, t2, t3, t4, t5, h1, -⟩ := h0
  obtain ⟨b1, b2, b3, a1, a2, a3⟩ := h1.cntW
  obtain ⟨y1, y2, y3⟩ := h1.cnt
  obtain ⟨x, M1, M2, p1, p2, p3, p4, p5, p6, p7⟩ := text_calls (X := X) (d := d) hX h.low.1 h.low.2.1 b1 b2 b3 y1 y2 y3 a1 a2 a3
  refine ⟨x, M1, M2, p1, p2, ?_⟩
  rcases p7 with p7 | ⟨k, q1, q2, C', s1, s2, s3⟩
  · exact h.quiet (k3_sub p7 TxA_q) (TapeR.nil p5 p6) p4 p3
  · refine h.plans (k3_sub k (fun c a j z => by rcases z with z | z; exact Or.inl z; exact Or.inr (by omega))) (TapeR.nil p5 p6) p4 p3 (Or.inr ⟨q1, q2⟩) (fun C S n5 n6 n7 hb hP z5 z6 z7 => ?_) (fun lc n5 n6 n7 hl => hl.cnt)
    obtain ⟨g1, g2, g3, g4, g5, g6, g7, g8, g9⟩ := hP
    have u5 : m5 = n5 := (iN_inj (by omega) (by omega)).mp (y1.symm.trans z5)
    have u6 : m6 = n6 := (iN_inj (by omega) (by omega)).mp (y2.symm.trans z6)
    have u7 : m7 = n7 := (iN_inj (by omega) (by omega)).mp (y3.symm.trans z7)
    subst u5 u6 u7
    obtain ⟨c1, c2⟩ := Sk_cp (M2 := M2) (W2 := M2.1 101 0) g4 g5 g6 (k 50 0 1 (by simp only [TxA, TxP, TyP]; omega)) (fun c j x y => k c 0 j (by simp only [TxA, TxP, TyP]; omega)) (fun j hj => k 101 0 j (by simp only [TxA, TxP, TyP]; omega))
    obtain ⟨w1, w2, w3⟩ := Wy_cp (M2 := M2) (W2 := M2.1 101 0) g7 g8 g9 (k 50 0 2 (by simp only [TxA, TxP, TyP]; omega)) (fun j => k 59 0 j (by simp only [TxA, TxP, TyP]; omega)) (fun j hj => k 101 0 j (by simp only [TxA, TxP, TyP]; omega))
    exact ⟨C', S, s1, s2, s3, c1, c2, g6, w1, w2, w3⟩
/-- text, by its kind -/
theorem inv109 {X : Cx} {d B : Nat} {M : Mem} {q : Int32} (hX : StrOk X) (h : Inv B M) : ∃ (x : Int32) (M1 M2 : Mem), CC X (d + 41) 109 [vR 2 0, vI q] M (some (vI x)) M1 ∧ CC X (d + 41) 200 [vR 100 0, vI q] M1 (some (vI x)) M2 ∧ Inv B M2 := by
  by_cases h0 : q = 0
  · subst h0
    exact inv109_law hX h
  by_cases h1 : q = 1
  · subst h1
    exact inv109_calls hX h
  by_cases h2 : q = 2
  · subst h2
    exact inv109_sky hX h
  by_cases h3 : q = 3
  · subst h3
    exact inv109_ways hX h
  · exact inv109_none hX h (by grind)
