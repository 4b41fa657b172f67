/-! text of the sky, both whole ways -/
def skG (t : Nat → Nat) (i : Nat) : Int32 × Nat := (iN (vN t 0 999 (.inl (i + 1))), skv t (.inl (i + 1)))
theorem map_get {α β : Type} {g : α → β} {P : List α} {i : Nat} {y : β} (h : (P.map g)[i]? = some y) : ∃ p, P[i]? = some p ∧ g p = y := by
  rw [List.getElem?_map] at h
  match hp : P[i]?, h with
  | none, h => cases h
  | some p, h =>
    have h : some (g p) = some y := h
    injection h with h
    exact ⟨p, rfl, h⟩
/-- both tell the same fault -/
def FtE (M : Mem) : Prop := M.1 3 0 13 = M.1 100 0 23 ∧ M.1 3 0 14 = M.1 100 0 25
theorem FtE_of {M M2 : Mem} {b : Nat → Nat} {n : Nat} : ∀ {z : Option (Nat × Nat)}, FtC M b n z → FtM M2 b n z → M2.1 3 0 13 = M.1 3 0 13 → M2.1 3 0 14 = M.1 3 0 14 → FtE M2
  | none, h1, h2, e1, e2 => ⟨by rw [e1, h1.1, h2.1], by rw [e2, h1.2, h2.2]⟩
  | some (_, _), h1, h2, e1, e2 => ⟨by rw [e1, h1.1, h2.1], by rw [e2, h1.2, h2.2]⟩
abbrev TxA : Nat → Nat → Nat → Prop := fun c a j => TxP c a j ∨ TyP c a j
theorem text_sky {X : Cx} {d : Nat} {M : Mem} (hX : StrOk X) (hT : TapeR M) (hW : WtR M) : ∃ (x : Int32) (M1 M2 : Mem), CC X (d + 41) 109 [vR 2 0, vI 2] M (some (vI x)) M1 ∧ CC X (d + 41) 200 [vR 100 0, vI 2] M1 (some (vI x)) M2 ∧ FtE M2 ∧ WtR M2 ∧ M2.1 3 0 7 = 0 ∧ M2.1 100 0 16 = 0 ∧ (K3 TxA M M2 ∨ (K3 (fun c a j => TxA c a j ∨ (a = 0 ∧ ((c = 50 ∧ j = 1) ∨ (57 ≤ c ∧ c < 59) ∨ (c = 8 ∧ j = 0) ∨ (c = 100 ∧ j = 4) ∨ (c = 101 ∧ (j = 234 ∨ (431 ≤ j ∧ j < 479)))))) M M2 ∧ M2.1 8 0 0 = 0 ∧ M2.1 100 0 4 = 0 ∧ ∃ S : Sk, SkC M2 0 S ∧ SkM (M2.1 101 0) S ∧ SkT S)) := by
  obtain ⟨b, n, m, hTk, hC, hM⟩ := tape_b hT
  obtain ⟨r, u1, u2, u3⟩ := sky_all hX hTk
  obtain ⟨M', p1, p2, p3, p4, p5, p6⟩ := trows hX hTk (by decide) u1 (d + 33) M hC hW (fun M6 h6 k6 => ⟨h6.2.2.2.1, fun q i hq => by cases hq⟩)
  match r, u2, u3, p1, p5, p6 with
  | .inr (e, p), u2, u3, p1, p5, p6 =>
    obtain ⟨M9, q1, q2, q3⟩ := rows200 hX (by decide) (by decide) u2 d M' (hM.k p2 (by simp [TxP]) (fun _ => by simp [TxP])) (fun M8 h8 k8 q i hq => by cases hq)
    rcases q3 with ⟨e', p', hr, hf, hcc⟩ | ⟨P, hr, _⟩
    · injection hr with hr
      injection hr with he hp
      subst he
      subst hp
      refine ⟨-1, M', M9, e109 (w109_0 ⟨_, _, p1, fun z => absurd rfl z, fun _ => ⟨rfl, rfl⟩⟩), hcc, FtE_of p5 hf (q1 3 0 13 (by simp [TyP])) (q1 3 0 14 (by simp [TyP])), ?_, by rw [q1 3 0 7 (by simp [TyP])]; exact p3, q2, Or.inl (k3_trans (k3_sub p2 (fun c a j z => Or.inl z)) (k3_sub q1 (fun c a j z => Or.inr z)))⟩
      obtain ⟨w, hw, h11⟩ := p4
      exact ⟨w, hw, by rw [q1 3 0 11 (by simp [TyP])]; exact h11⟩
    · cases hr
  | .inl P, u2, u3, p1, p5, p6 =>
    have p6 : SkI (tk b n) M' P := p6
    have hP16 : P.length ≤ 16 := u3.1
    obtain ⟨Ma, s1, s2, s3, s4⟩ := c13 (X := X) (d := d + 39) (M := M') (a := 0) (b := 1) (by decide)
    have cls : CC X (d + 41) 109 [vR 2 0, vI 2] M (some (vI (iN P.length))) (st Ma 8 0 0 0) := e109 (w109_0 ⟨_, _, p1, fun _ => ⟨fun z => absurd z (by decide), fun _ => ⟨fun z => absurd z (by decide), fun _ => ⟨fun _ => ⟨_, s1, _, c10, rfl, rfl⟩, fun z => absurd rfl z⟩⟩⟩, fun z => absurd z (m1 hP16)⟩)
    have k1 : K3 (fun c a j => TxP c a j ∨ (a = 0 ∧ ((c = 50 ∧ j = 1) ∨ (57 ≤ c ∧ c < 59) ∨ (c = 8 ∧ j = 0)))) M (st Ma 8 0 0 0) := k3_trans (k3_sub p2 (fun c a j z => Or.inl z)) (k3_trans (k3_sub s4 (fun c a j z => Or.inr (by omega))) (k3_st (Or.inr (by omega))))
    obtain ⟨M9, q1, q2, q3⟩ := rows200 hX (by decide) (by decide) u2 d (st Ma 8 0 0 0) (hM.k k1 (by simp [TxP]) (fun _ => by simp [TxP])) (fun M8 h8 k8 q i hq => by cases hq)
    rcases q3 with ⟨e', p', hr, _⟩ | ⟨P', hr, h23, h25, h15, ⟨M8, hJ, h9⟩, hgo⟩
    · cases hr
    · injection hr with hr
      subst hr
      have hJ : SkJ (tk b n) M8 P := hJ
      have e3 : 3 * iN P.length = iN (3 * P.length) := by simp only [iN_lit, iN_mul]
      obtain ⟨Mb, t1, t2, t3, t4⟩ := c198 (X := X) (d := d + 38) (M := st M9 100 0 4 0) (h := 234) (base := 431) (cnt := 3 * P.length) (q := P.length) (by decide) (by omega) (by omega) (by rw [st_ne3 (by omega)]; exact h15)
      have ref := hgo (iN P.length) Mb (e199 (w199_0 ⟨fun _ => ⟨fun _ => ⟨_, c159, fun _ => ⟨_, _, by rw [st_ne3 (by omega), h15, e3]; exact t1, rfl, rfl⟩, fun z => absurd z (by decide)⟩, fun z => absurd z (by decide)⟩, fun z => absurd z (by decide)⟩))
      have k2 : K3 (fun c a j => TyP c a j ∨ (a = 0 ∧ ((c = 100 ∧ j = 4) ∨ (c = 101 ∧ (j = 234 ∨ (431 ≤ j ∧ j < 479)))))) (st Ma 8 0 0 0) Mb := k3_trans (k3_sub q1 (fun c a j z => Or.inl z)) (k3_trans (k3_st (Or.inr (by omega))) (k3_sub t4 (fun c a j z => Or.inr (by omega))))
      have low : ∀ c a j, c < 100 → Mb.1 c a j = (st Ma 8 0 0 0).1 c a j := fun c a j hc => k2 c a j (by simp only [TyP]; omega)
      have low2 : ∀ j, Mb.1 3 0 j = M'.1 3 0 j := fun j => by rw [low 3 0 j (by decide), st_ne3 (fun z => absurd z.1 (by decide)), s4 3 0 j (by omega)]
      refine ⟨iN P.length, _, Mb, cls, ref, FtE_of (z := none) p5 ⟨by rw [t4 100 0 23 (by omega), st_ne3 (by omega)]; exact h23, by rw [t4 100 0 25 (by omega), st_ne3 (by omega)]; exact h25⟩ (low2 13) (low2 14), ?_, by rw [low2]; exact p3, by rw [t4 100 0 16 (by omega), st_ne3 (by omega)]; exact q2, Or.inr ⟨k3_trans (k3_sub k1 (fun c a j z => by rcases z with z | z; exact Or.inl (Or.inl z); exact Or.inr (by omega))) (k3_sub k2 (fun c a j z => by rcases z with z | z; exact Or.inl (Or.inr z); exact Or.inr (by omega))), by rw [low 8 0 0 (by decide), st_at], by rw [t4 100 0 4 (by omega), st_at], P.map (skG (tk b n)), ?_, ?_, ?_⟩⟩
      · obtain ⟨w, hw, h11⟩ := p4
        exact ⟨w, hw, by rw [low2]; exact h11⟩
      · refine ⟨by rw [low 50 0 1 (by decide), st_ne3 (fun z => absurd z.1 (by decide)), s2, List.length_map]; exact p6.1, fun i y s hi => ?_⟩
        obtain ⟨p, hp, hg⟩ := map_get hi
        have hil := (List.getElem?_eq_some_iff.mp hp).1
        obtain ⟨o1, o2⟩ := p6.2 i p hp
        injection hg with g1 g2
        rw [low 57 0 i (by decide), st_ne3 (fun z => absurd z.1 (by decide)), s3 57 i (by decide) (by decide) (by omega), low 58 0 i (by decide), st_ne3 (fun z => absurd z.1 (by decide)), s3 58 i (by decide) (by decide) (by omega), ← g1, ← g2]
        exact ⟨o1, o2⟩
      · refine ⟨by rw [t2, List.length_map], fun i y s hi => ?_⟩
        obtain ⟨p, hp, hg⟩ := map_get hi
        have hil := (List.getElem?_eq_some_iff.mp hp).1
        obtain ⟨o1, o2, o3, o4⟩ := hJ i p hp
        injection hg with g1 g2
        have e107 : ∀ x, x < 3 * P.length → Mb.1 101 0 (431 + x) = M8.1 107 0 x := fun x hx => by rw [t3 x hx, st_ne3 (fun z => absurd z.1 (by decide)), h9, st_ne3 (fun z => absurd z.1 (by decide))]
        rw [← g1, ← g2, Nat.add_assoc, Nat.add_assoc, e107 _ (by omega), e107 _ (by omega), e107 _ (by omega)]
        exact ⟨o1, o2, o3, o4⟩
      · refine ⟨by rw [List.length_map]; exact hP16, fun i y s hi => ?_⟩
        obtain ⟨p, hp, hg⟩ := map_get hi
        injection hg with g1 g2
        rw [← g2]
        exact skv_le
