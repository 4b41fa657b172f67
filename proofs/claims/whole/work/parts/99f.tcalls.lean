/-! text of the calls, both whole ways -/
def clG (t : Nat → Nat) (h5 h6 h7 i : Nat) : Int32 × Nat × Nat × Nat × Nat := (iN (vN t 0 999 (.inl (i + 1))), vX t h7 (cl2 t (.inl (i + 1))), (clF t h5 h7 (.inl (i + 1))).2.1, (clF t h5 h7 (.inl (i + 1))).2.2, vX t h6 (cl6 t h5 h7 (.inl (i + 1))))
theorem digs_in {R f : Nat} : ∀ {k : Nat}, f ∈ digs R k → ∃ j, j < k ∧ f = R / 10 ^ (k - 1 - j) % 10
  | 0, h => by cases h
  | k + 1, h => by
    have h : f ∈ (R / 10 ^ k % 10) :: digs R k := h
    rcases List.mem_cons.mp h with h | h
    · exact ⟨0, by omega, by rw [h, show k + 1 - 1 - 0 = k by omega]⟩
    · obtain ⟨j, h1, h2⟩ := digs_in h
      exact ⟨j + 1, by omega, by rw [h2, show k + 1 - 1 - (j + 1) = k - 1 - j by omega]⟩
theorem text_calls {X : Cx} {d : Nat} {M : Mem} {h5 h6 h7 : Nat} (hX : StrOk X) (hT : TapeR M) (hW : WtR M) (hh5 : h5 ≤ 10) (hh6 : h6 ≤ 8) (hh7 : h7 ≤ 12) (c5 : M.1 20 0 5 = iN h5) (c6 : M.1 20 0 6 = iN h6) (c7 : M.1 20 0 7 = iN h7) (w5 : M.1 101 0 229 = iN h5) (w6 : M.1 101 0 230 = iN h6) (w7 : M.1 101 0 231 = iN h7) : ∃ (x : Int32) (M1 M2 : Mem), CC X (d + 41) 109 [vR 2 0, vI 1] M (some (vI x)) M1 ∧ CC X (d + 41) 200 [vR 100 0, vI 1] M1 (some (vI x)) M2 ∧ FtE M2 ∧ WtR M2 ∧ M2.1 3 0 7 = 0 ∧ M2.1 100 0 16 = 0 ∧ (K3 TxA M M2 ∨ (K3 (fun c a j => TxA c a j ∨ (a = 0 ∧ ((c = 50 ∧ j = 0) ∨ (53 ≤ c ∧ c < 57) ∨ (c = 8 ∧ j = 0) ∨ (c = 100 ∧ j = 4) ∨ (c = 101 ∧ (j = 233 ∨ (287 ≤ j ∧ j < 431)))))) M M2 ∧ M2.1 8 0 0 = 0 ∧ M2.1 100 0 4 = 0 ∧ ∃ C : Cl, ClC M2 0 C ∧ ClM (M2.1 101 0) C ∧ ClT C h5 h6 h7)) := by
  obtain ⟨b, n, m, hTk, hC, hM⟩ := tape_b hT
  obtain ⟨r, u1, u2, u3⟩ := calls_all hX hTk hh5 hh6 hh7
  obtain ⟨M', p1, p2, p3, p4, p5, p6⟩ := trows hX hTk (by decide) u1 (d + 33) M hC hW (fun M6 h6' k6 => ⟨by rw [k6 20 0 5 (by simp [PrP])]; exact c5, by rw [k6 20 0 6 (by simp [PrP])]; exact c6, by rw [k6 20 0 7 (by simp [PrP])]; exact c7, h6'.2.2.1, fun q i hq => by cases hq⟩)
  match r, u2, u3, p1, p5, p6 with
  | .inr (e, p), u2, u3, p1, p5, p6 =>
    obtain ⟨M9, q1, q2, q3⟩ := rows200 hX (by decide) (by decide) u2 d M' (hM.k p2 (by simp [TxP]) (fun _ => by simp [TxP])) (fun M8 h8 k8 => ⟨by rw [k8 101 0 229 (by simp [TyP]), p2 101 0 229 (by simp [TxP])]; exact w5, by rw [k8 101 0 230 (by simp [TyP]), p2 101 0 230 (by simp [TxP])]; exact w6, by rw [k8 101 0 231 (by simp [TyP]), p2 101 0 231 (by simp [TxP])]; exact w7, fun q i hq => by cases hq⟩)
    rcases q3 with ⟨e', p', hr, hf, hcc⟩ | ⟨P, hr, _⟩
    · injection hr with hr
      injection hr with he hp
      subst he
      subst hp
      refine ⟨-1, M', M9, e109 (w109_0 ⟨_, _, p1, fun z => absurd rfl z, fun _ => ⟨rfl, rfl⟩⟩), hcc, FtE_of p5 hf (q1 3 0 13 (by simp [TyP])) (q1 3 0 14 (by simp [TyP])), ?_, by rw [q1 3 0 7 (by simp [TyP])]; exact p3, q2, Or.inl (k3_trans (k3_sub p2 (fun c a j z => Or.inl z)) (k3_sub q1 (fun c a j z => Or.inr z)))⟩
      obtain ⟨w, hw, h11⟩ := p4
      exact ⟨w, hw, by rw [q1 3 0 11 (by simp [TyP])]; exact h11⟩
    · cases hr
  | .inl P, u2, u3, p1, p5, p6 =>
    have p6 : ClI (tk b n) h5 h6 h7 M' P := p6
    have hP16 : P.length ≤ 16 := u3.1
    have hK : ClK (tk b n) h5 h6 h7 P := u3.2
    obtain ⟨Ma, s1, s2, s3, s4⟩ := c12 (X := X) (d := d + 39) (M := M') (a := 0) (b := 1) (by decide)
    have cls : CC X (d + 41) 109 [vR 2 0, vI 1] M (some (vI (iN P.length))) (st Ma 8 0 0 0) := e109 (w109_0 ⟨_, _, p1, fun _ => ⟨fun z => absurd z (by decide), fun _ => ⟨fun _ => ⟨_, s1, _, c10, rfl, rfl⟩, fun z => absurd rfl z⟩⟩, fun z => absurd z (m1 hP16)⟩)
    have k1 : K3 (fun c a j => TxP c a j ∨ (a = 0 ∧ ((c = 50 ∧ j = 0) ∨ (53 ≤ c ∧ c < 57) ∨ (c = 8 ∧ j = 0)))) M (st Ma 8 0 0 0) := k3_trans (k3_sub p2 (fun c a j z => Or.inl z)) (k3_trans (k3_sub s4 (fun c a j z => Or.inr (by omega))) (k3_st (Or.inr (by omega))))
    obtain ⟨M9, q1, q2, q3⟩ := rows200 hX (by decide) (by decide) u2 d (st Ma 8 0 0 0) (hM.k k1 (by simp [TxP]) (fun _ => by simp [TxP])) (fun M8 h8 k8 => ⟨by rw [k8 101 0 229 (by simp [TyP]), k1 101 0 229 (by simp [TxP])]; exact w5, by rw [k8 101 0 230 (by simp [TyP]), k1 101 0 230 (by simp [TxP])]; exact w6, by rw [k8 101 0 231 (by simp [TyP]), k1 101 0 231 (by simp [TxP])]; exact w7, fun q i hq => by cases hq⟩)
    rcases q3 with ⟨e', p', hr, _⟩ | ⟨P', hr, h23, h25, h15, ⟨M8, hJ, h9⟩, hgo⟩
    · cases hr
    · injection hr with hr
      subst hr
      have hJ : ClJ (tk b n) h5 h6 h7 M8 P := hJ
      have e9 : 9 * iN P.length = iN (9 * P.length) := by simp only [iN_lit, iN_mul]
      obtain ⟨Mb, t1, t2, t3, t4⟩ := c198 (X := X) (d := d + 38) (M := st M9 100 0 4 0) (h := 233) (base := 287) (cnt := 9 * P.length) (q := P.length) (by decide) (by omega) (by omega) (by rw [st_ne3 (by omega)]; exact h15)
      have ref := hgo (iN P.length) Mb (e199 (w199_0 ⟨fun _ => ⟨fun _ => ⟨_, c159, fun z => absurd rfl z, fun _ => ⟨_, _, by rw [st_ne3 (by omega), h15, e9]; exact t1, rfl, rfl⟩⟩, fun z => absurd z (by decide)⟩, fun z => absurd z (by decide)⟩))
      have k2 : K3 (fun c a j => TyP c a j ∨ (a = 0 ∧ ((c = 100 ∧ j = 4) ∨ (c = 101 ∧ (j = 233 ∨ (287 ≤ j ∧ j < 431)))))) (st Ma 8 0 0 0) Mb := k3_trans (k3_sub q1 (fun c a j z => Or.inl z)) (k3_trans (k3_st (Or.inr (by omega))) (k3_sub t4 (fun c a j z => Or.inr (by omega))))
      have low : ∀ c a j, c < 100 → Mb.1 c a j = (st Ma 8 0 0 0).1 c a j := fun c a j hc => k2 c a j (by simp only [TyP]; omega)
      have low2 : ∀ j, Mb.1 3 0 j = M'.1 3 0 j := fun j => by rw [low 3 0 j (by decide), st_ne3 (fun z => absurd z.1 (by decide)), s4 3 0 j (by omega)]
      refine ⟨iN P.length, _, Mb, cls, ref, FtE_of (z := none) p5 ⟨by rw [t4 100 0 23 (by omega), st_ne3 (by omega)]; exact h23, by rw [t4 100 0 25 (by omega), st_ne3 (by omega)]; exact h25⟩ (low2 13) (low2 14), ?_, by rw [low2]; exact p3, by rw [t4 100 0 16 (by omega), st_ne3 (by omega)]; exact q2, Or.inr ⟨k3_trans (k3_sub k1 (fun c a j z => by rcases z with z | z; exact Or.inl (Or.inl z); exact Or.inr (by omega))) (k3_sub k2 (fun c a j z => by rcases z with z | z; exact Or.inl (Or.inr z); exact Or.inr (by omega))), by rw [low 8 0 0 (by decide), st_at], by rw [t4 100 0 4 (by omega), st_at], P.map (clG (tk b n) h5 h6 h7), ?_, ?_, ?_⟩⟩
      · obtain ⟨w, hw, h11⟩ := p4
        exact ⟨w, hw, by rw [low2]; exact h11⟩
      · refine ⟨by rw [low 50 0 0 (by decide), st_ne3 (fun z => absurd z.1 (by decide)), s2, List.length_map]; exact p6.2.2.2.1, fun i y p R k e hi => ?_⟩
        obtain ⟨p', hp, hg⟩ := map_get hi
        have hil := (List.getElem?_eq_some_iff.mp hp).1
        obtain ⟨o1, o2, o3, o4⟩ := p6.2.2.2.2 i p' hp
        injection hg with g1 g2
        injection g2 with g2 g3
        injection g3 with g3 g4
        injection g4 with g4 g5
        rw [low 53 0 i (by decide), st_ne3 (fun z => absurd z.1 (by decide)), s3 53 i (by decide) (by decide) (by omega), low 54 0 i (by decide), st_ne3 (fun z => absurd z.1 (by decide)), s3 54 i (by decide) (by decide) (by omega), low 55 0 i (by decide), st_ne3 (fun z => absurd z.1 (by decide)), s3 55 i (by decide) (by decide) (by omega), low 56 0 i (by decide), st_ne3 (fun z => absurd z.1 (by decide)), s3 56 i (by decide) (by decide) (by omega), ← g1, ← g2, ← g3, ← g5]
        exact ⟨o1, o2, o3, o4⟩
      · refine ⟨by rw [t2, List.length_map], fun i y p R k e hi => ?_⟩
        obtain ⟨p', hp, hg⟩ := map_get hi
        have hil := (List.getElem?_eq_some_iff.mp hp).1
        obtain ⟨o0, o1, o2, o3, o4, o5⟩ := hJ.2.2.2 i p' hp
        injection hg with g1 g2
        injection g2 with g2 g3
        injection g3 with g3 g4
        injection g4 with g4 g5
        have e107 : ∀ x, x < 9 * P.length → Mb.1 101 0 (287 + x) = M8.1 107 0 x := fun x hx => by rw [t3 x hx, st_ne3 (fun z => absurd z.1 (by decide)), h9, st_ne3 (fun z => absurd z.1 (by decide))]
        rw [g3, g4] at o4
        rw [g4] at o0 o5
        refine ⟨by rw [e107 _ (by omega), ← g1]; exact o1, by rw [Nat.add_assoc, e107 _ (by omega), ← g2]; exact o2, by rw [Nat.add_assoc, e107 _ (by omega), ← g5]; exact o3, fun j hj => ?_, fun j h1 h2 => ?_⟩
        · rw [show 287 + 9 * i + 3 + j = 287 + (9 * i + 3 + j) by omega, e107 _ (by omega)]
          exact o4 j hj
        · rw [show 287 + 9 * i + 3 + j = 287 + (9 * i + 3 + j) by omega, e107 _ (by omega)]
          exact o5 j h1 h2
      · refine ⟨by rw [List.length_map]; exact hP16, fun i y p R k e hi => ?_⟩
        obtain ⟨p', hp, hg⟩ := map_get hi
        obtain ⟨o1, o2, o3, o4, o5, o6, o7⟩ := hK i p' hp
        injection hg with g1 g2
        injection g2 with g2 g3
        injection g3 with g3 g4
        injection g4 with g4 g5
        rw [g2] at o1
        rw [g5] at o2
        rw [g4] at o3 o4 o5 o6 o7
        rw [g3] at o5 o6 o7
        refine ⟨o1, o2, o3, o4, o5, o6, fun f hf => ?_⟩
        obtain ⟨j, h1, h2⟩ := digs_in hf
        rw [h2]
        exact o7 j h1
