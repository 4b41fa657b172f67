/-! text of the ways, of the law, and of nothing: both whole ways -/
theorem text_ways {X : Cx} {d : Nat} {M : Mem} {h : Nat} (hX : StrOk X) (hT : TapeR M) (hW : WtR M) (hh : h ≤ 8) (c6 : M.1 20 0 6 = iN h) (w6 : M.1 101 0 230 = iN h) : ∃ (x : Int32) (M1 M2 : Mem), CC X (d + 41) 109 [vR 2 0, vI 3] M (some (vI x)) M1 ∧ CC X (d + 41) 200 [vR 100 0, vI 3] M1 (some (vI x)) M2 ∧ FtE M2 ∧ WtR M2 ∧ M2.1 3 0 7 = 0 ∧ M2.1 100 0 16 = 0 ∧ (K3 TxA M M2 ∨ (K3 (fun c a j => TxA c a j ∨ (a = 0 ∧ ((c = 50 ∧ j = 2) ∨ c = 59 ∨ (c = 101 ∧ (j = 235 ∨ (479 ≤ j ∧ j < 543)))))) M M2 ∧ WayR M2 0 (M2.1 101 0) ∧ M2.1 50 0 2 = M2.1 101 0 235 ∧ ∀ i j, i < 8 → j < 8 → M2.1 59 0 (8 * i + j) = M2.1 59 0 (8 * j + i))) := by
  obtain ⟨b, n, m, hTk, hC, hM⟩ := tape_b hT
  obtain ⟨r, u1, u2, u3⟩ := ways_all hX hTk hh
  obtain ⟨M', p1, p2, p3, p4, p5, p6⟩ := trows hX hTk (by decide) u1 (d + 33) M hC hW (fun M6 h6 k6 => ⟨okW_0, by rw [k6 20 0 6 (by simp [PrP])]; exact c6, h6.2.2.2.2.1, fun x hx => h6.2.2.2.2.2 x hx⟩)
  match r, u2, u3, p1, p5, p6 with
  | .inr (e, p), u2, u3, p1, p5, p6 =>
    obtain ⟨M9, q1, q2, q3⟩ := rows200 hX (by decide) (by decide) u2 d M' (hM.k p2 (by simp [TxP]) (fun _ => by simp [TxP])) (fun M8 h8 k8 => ⟨okW_0, by rw [k8 101 0 230 (by simp [TyP]), p2 101 0 230 (by simp [TxP])]; exact w6, fun x hx => h8 rfl x hx⟩)
    rcases q3 with ⟨e', p', hr, hf, hcc⟩ | ⟨P, hr, _⟩
    · injection hr with hr
      injection hr with he hp
      subst he
      subst hp
      refine ⟨-1, M', M9, e109 (w109_0 ⟨_, _, p1, fun z => absurd rfl z, fun _ => ⟨rfl, rfl⟩⟩), hcc, FtE_of p5 hf (q1 3 0 13 (by simp [TyP])) (q1 3 0 14 (by simp [TyP])), ?_, by rw [q1 3 0 7 (by simp [TyP])]; exact p3, q2, Or.inl (k3_trans (k3_sub p2 (fun c a j z => Or.inl z)) (k3_sub q1 (fun c a j z => Or.inr z)))⟩
      obtain ⟨w, hw, h11⟩ := p4
      exact ⟨w, hw, by rw [q1 3 0 11 (by simp [TyP])]; exact h11⟩
    · cases hr
  | .inl P, u2, u3, p1, p5, p6 =>
    have p6 : WyI (tk b n) h M' P := p6
    have hP16 : P.length ≤ 16 := u3.1
    have hK : okW (wmF (tk b n) h P) := u3.2
    obtain ⟨Ma, s1, s2, s3, s4⟩ := c14 (X := X) (d := d + 39) (M := M') (a := 0) (b := 1) (by decide)
    have cls : CC X (d + 41) 109 [vR 2 0, vI 3] M (some (vI (iN P.length))) Ma := e109 (w109_0 ⟨_, _, p1, fun _ => ⟨fun z => absurd z (by decide), fun _ => ⟨fun z => absurd z (by decide), fun _ => ⟨fun z => absurd z (by decide), fun _ => ⟨_, s1, rfl, rfl⟩⟩⟩⟩, fun z => absurd z (m1 hP16)⟩)
    have k1 : K3 (fun c a j => TxP c a j ∨ (a = 0 ∧ ((c = 50 ∧ j = 2) ∨ c = 59))) M Ma := k3_trans (k3_sub p2 (fun c a j z => Or.inl z)) (k3_sub s4 (fun c a j z => Or.inr (by omega)))
    obtain ⟨M9, q1, q2, q3⟩ := rows200 hX (by decide) (by decide) u2 d Ma (hM.k k1 (by simp [TxP]) (fun _ => by simp [TxP])) (fun M8 h8 k8 => ⟨okW_0, by rw [k8 101 0 230 (by simp [TyP]), k1 101 0 230 (by simp [TxP])]; exact w6, fun x hx => h8 rfl x hx⟩)
    rcases q3 with ⟨e', p', hr, _⟩ | ⟨P', hr, h23, h25, h15, ⟨M8, hJ, h9⟩, hgo⟩
    · cases hr
    · injection hr with hr
      subst hr
      have hJ : WyJ (tk b n) h M8 P := hJ
      obtain ⟨Mb, t1, t2, t3, t4⟩ := c198 (X := X) (d := d + 38) (M := M9) (h := 235) (base := 479) (cnt := 64) (q := P.length) (by decide) (by decide) (by decide) h15
      have ref := hgo (iN P.length) Mb (e199 (w199_0 ⟨fun _ => ⟨fun z => absurd rfl z, fun _ => ⟨_, _, t1, rfl, rfl⟩⟩, fun z => absurd z (by decide)⟩))
      have k2 : K3 (fun c a j => TyP c a j ∨ (a = 0 ∧ (c = 101 ∧ (j = 235 ∨ (479 ≤ j ∧ j < 543))))) Ma Mb := k3_trans (k3_sub q1 (fun c a j z => Or.inl z)) (k3_sub t4 (fun c a j z => Or.inr (by omega)))
      have low : ∀ c a j, c < 100 → Mb.1 c a j = Ma.1 c a j := fun c a j hc => k2 c a j (by simp only [TyP]; omega)
      have low2 : ∀ j, Mb.1 3 0 j = M'.1 3 0 j := fun j => by rw [low 3 0 j (by decide), s4 3 0 j (by omega)]
      have l59 : ∀ x, x < 64 → Mb.1 59 0 x = iN (wmF (tk b n) h P x) := fun x hx => by rw [low 59 0 x (by decide), s3 x hx]; exact p6.2.2.2 x hx
      have w59 : ∀ x, x < 64 → Mb.1 101 0 (479 + x) = cvN (wmF (tk b n) h P x) := fun x hx => by rw [t3 x hx, h9, st_ne3 (fun z => absurd z.1 (by decide))]; exact hJ.2.2 x hx
      refine ⟨iN P.length, _, Mb, cls, ref, FtE_of (z := none) p5 ⟨by rw [t4 100 0 23 (by omega)]; exact h23, by rw [t4 100 0 25 (by omega)]; exact h25⟩ (low2 13) (low2 14), ?_, by rw [low2]; exact p3, by rw [t4 100 0 16 (by omega)]; exact q2, Or.inr ⟨k3_trans (k3_sub k1 (fun c a j z => by rcases z with z | z; exact Or.inl (Or.inl z); exact Or.inr (by omega))) (k3_sub k2 (fun c a j z => by rcases z with z | z; exact Or.inl (Or.inr z); exact Or.inr (by omega))), fun i j hi hj => ?_, ?_, fun i j hi hj => ?_⟩⟩
      · obtain ⟨w, hw, h11⟩ := p4
        exact ⟨w, hw, by rw [low2]; exact h11⟩
      · have hx := hK.1 (8 * i + j)
        rw [l59 _ (by omega), w59 _ (by omega)]
        by_cases h0 : wmF (tk b n) h P (8 * i + j) = 0
        · exact Or.inl ⟨by rw [h0]; rfl, if_pos h0⟩
        · exact Or.inr ⟨_, by omega, hx, rfl, if_neg h0⟩
      · rw [low 50 0 2 (by decide), s2, p6.2.2.1, t2]
      · rw [l59 _ (by omega), l59 _ (by omega), hK.2 i j hi hj]
theorem text_laws {X : Cx} {d : Nat} {M : Mem} (hX : StrOk X) (hT : TapeR M) (hW : WtR M) : ∃ (x : Int32) (M1 M2 : Mem), CC X (d + 41) 109 [vR 2 0, vI 0] M (some (vI x)) M1 ∧ CC X (d + 41) 200 [vR 100 0, vI 0] M1 (some (vI x)) M2 ∧ FtE M2 ∧ WtR M2 ∧ M2.1 3 0 7 = 0 ∧ M2.1 100 0 16 = 0 ∧ (K3 TxA M M2 ∨ (K3 (fun c a j => TxA c a j ∨ (a = 0 ∧ ((40 ≤ c ∧ c < 47) ∨ (c = 101 ∧ (j = 232 ∨ (1245 ≤ j ∧ j < 2129)))))) M M2 ∧ ∃ L : Lw, LwS M2 0 (M2.1 101 0) L)) := by
  obtain ⟨b, n, m, hTk, hC, hM⟩ := tape_b hT
  obtain ⟨r, u3, u1, u2⟩ := text_law hX hTk
  obtain ⟨M', p1, p2, p3, p4, p5, p6⟩ := u1 (d + 33) M hC hW
  obtain ⟨M2, q1, q2, q3, q4, q5⟩ := rlaw hX hTk u3 u2 d M' (hM.k p5 (by simp [TxP]) (fun _ => by simp [TxP]))
  have low : ∀ c a j, c < 100 → M2.1 c a j = M'.1 c a j := fun c a j hc => q4 c a j (by simp only [TyP]; omega)
  refine ⟨_, M', M2, p1, q1, FtE_of p2 q2 (low 3 0 13 (by decide)) (low 3 0 14 (by decide)), ?_, by rw [low 3 0 7 (by decide)]; exact p4, q3, ?_⟩
  · obtain ⟨w, hw, h11⟩ := p3
    exact ⟨w, hw, by rw [low 3 0 11 (by decide)]; exact h11⟩
  · match r, u3, p5, p6, q4, q5 with
    | .inr z, u3, p5, p6, q4, q5 =>
      refine Or.inl (k3_trans (k3_sub p5 (fun c a j y => ?_)) (k3_sub q4 (fun c a j y => ?_)))
      · rcases y with y | ⟨⟨L, hL⟩, _⟩
        · exact Or.inl y
        · cases hL
      · rcases y with y | ⟨⟨L, hL⟩, _⟩
        · exact Or.inr y
        · cases hL
    | .inl L, u3, p5, p6, q4, q5 =>
      refine Or.inr ⟨k3_trans (k3_sub p5 (fun c a j y => ?_)) (k3_sub q4 (fun c a j y => ?_)), L, ?_, q5 L rfl, u3⟩
      · rcases y with y | ⟨_, y⟩
        · exact Or.inl (Or.inl y)
        · exact Or.inr (by omega)
      · rcases y with y | ⟨_, y⟩
        · exact Or.inl (Or.inr y)
        · exact Or.inr (by omega)
      · exact (p6 L rfl).cp u3 (low 40 0 0 (by decide)) (fun c j h1 h2 _ => low c 0 j (by omega)) (fun j _ => low 46 0 j (by decide))
theorem text_none {X : Cx} {d : Nat} {M : Mem} {q : Int32} (hX : StrOk X) (hT : TapeR M) (hW : WtR M) (hq : q < 0 ∨ ¬ q ≤ 3) : ∃ (M1 M2 : Mem), CC X (d + 41) 109 [vR 2 0, vI q] M (some (vI (-1))) M1 ∧ CC X (d + 41) 200 [vR 100 0, vI q] M1 (some (vI (-1))) M2 ∧ FtE M2 ∧ WtR M2 ∧ M2.1 3 0 7 = 0 ∧ M2.1 100 0 16 = 0 ∧ K3 TxA M M2 := by
  obtain ⟨b, n, m, hTk, hC, hM⟩ := tape_b hT
  obtain ⟨M4, a1, a2, a3, a4, a5, a6, a7, a8⟩ := pre_all (X := X) (d := d + 33) (p0 := q) hX hTk hC
  have run : CC X (d + 40) 24 [vR 3 0, vI q] M (some (vI (-1))) M4 := e24 (a8 _ ⟨fun _ => ⟨rfl, rfl⟩, fun z => ⟨fun z2 => by rcases hq with y | y; exact absurd y z; exact absurd z2 y, fun _ => ⟨rfl, rfl⟩⟩⟩)
  have k2 : K3 TyP M4 (st (st (st M4 100 0 23 0) 100 0 25 (-1)) 100 0 16 0) := k3_trans (k3_trans (k3_st (by simp [TyP])) (k3_st (by simp [TyP]))) (k3_st (by simp [TyP]))
  refine ⟨M4, _, e109 (w109_0 ⟨_, _, run, fun z => absurd rfl z, fun _ => ⟨rfl, rfl⟩⟩), e200 (w200_0 (fun M1 h1 M2 h2 => ?_)), ⟨?_, ?_⟩, ?_, by rw [k2 3 0 7 (by simp [TyP])]; exact a3, st_at, k3_trans (k3_sub a7 (fun c a j z => Or.inl (Pr_x c a j z))) (k3_sub k2 (fun c a j z => Or.inr z))⟩
  · have cin := c151 (X := X) (d := d + 39) (M := M2) (v := q) (lo := 0) (hi := 3)
    have hf : inR q 0 3 = false := by
      unfold inR
      rcases hq with y | y
      · rw [decide_eq_false (fun z => absurd (Int32.lt_of_lt_of_le y z) (Int32.lt_irrefl)), Bool.false_and]
      · rw [decide_eq_false y, Bool.and_false]
    rw [hf] at cin
    refine ⟨_, _, cin, fun z => absurd rfl z, fun _ M18 h18 => ⟨rfl, ?_⟩⟩
    rw [h18, h2, h1]
  · rw [k2 3 0 13 (by simp [TyP]), a1, st_ne3 (by omega), st_ne3 (by omega), st_at]
  · rw [k2 3 0 14 (by simp [TyP]), a2, st_ne3 (by omega), st_at]
  · obtain ⟨w, hw, h11⟩ := hW
    exact ⟨w, hw, by rw [k2 3 0 11 (by simp [TyP]), a7 3 0 11 (by simp [PrP])]; exact h11⟩
