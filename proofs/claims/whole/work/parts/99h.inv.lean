/-! the invariant -/
def ImgR (B : Nat) (M : Mem) : Prop := (M.1 10 0 0 = 0 ∧ M.1 100 0 5 = 0) ∨ (M.1 10 0 0 = 1 ∧ M.1 100 0 5 = 1 ∧ St B M 8 2 2 1 (M.1 102 0))
def Inv (B : Nat) (M : Mem) : Prop := ∃ (n nx lc : Nat) (L : Lw) (C : Cl) (S : Sk) (n5 n6 n7 t1 t2 t3 t4 t5 : Nat), LdS B M 0 (M.1 101 0) lc n5 n6 n7 ∧ LwS M 0 (M.1 101 0) L ∧ PlS M 0 (M.1 101 0) C S n5 n6 n7 ∧ TlS M 0 (M.1 101 0) t1 t2 t3 t4 t5 ∧ PastJ B M n n n nx lc ∧ TapeR M ∧ WtR M ∧ FtE M ∧ M.1 11 0 3 = 0 ∧ M.1 11 1 3 = 1 ∧ M.1 30 1 0 = 0 ∧ ImgR B M
/-- what no part of it but tape and faults looks at -/
abbrev QtP : Nat → Nat → Nat → Prop := fun c a j => (a = 0 ∧ 3 ≤ c ∧ c ≤ 7) ∨ (c = 100 ∧ a = 0 ∧ 12 ≤ j ∧ j ≤ 25) ∨ (105 ≤ c ∧ c ≤ 108) ∨ (a = 1 ∧ 40 ≤ c ∧ c < 60)
theorem okC_in {c j : Nat} (h : okC c j = true) : 20 ≤ c ∧ c < 30 := by
  unfold okC at h
  split at h
  all_goals first
    | omega
    | cases h
theorem TC_eq {M M2 : Mem} {a : Nat} (e : ∀ c j, 20 ≤ c → c < 30 → M2.1 c a j = M.1 c a j) : TC M2 a = TC M a := by
  funext c j
  unfold TC
  by_cases hc : okC c j = true
  · have h := okC_in hc
    rw [if_pos hc, if_pos hc, e c j h.1 h.2]
  · rw [if_neg hc, if_neg hc]
theorem quiet_parts {B : Nat} {M M2 : Mem} {lc n5 n6 n7 t1 t2 t3 t4 t5 : Nat} {L : Lw} {C : Cl} {S : Sk} {a l b t : Nat} {W : Nat → Int32} (e : ∀ c a j, (8 ≤ c ∧ c < 40) ∨ (40 ≤ c ∧ c < 60 ∧ a ≠ 1) ∨ (60 ≤ c ∧ c < 100) → M2.1 c a j = M.1 c a j) (hl : l ≠ 1) (hb : b ≠ 1) (h1 : LdS B M a W lc n5 n6 n7) (h2 : LwS M l W L) (h3 : PlS M b W C S n5 n6 n7) (h4 : TlS M t W t1 t2 t3 t4 t5) : LdS B M2 a W lc n5 n6 n7 ∧ LwS M2 l W L ∧ PlS M2 b W C S n5 n6 n7 ∧ TlS M2 t W t1 t2 t3 t4 t5 :=
  ⟨h1.cp (Nat.le_refl _) (TC_eq (fun c j x y => e c a j (by omega))) (e 30 a 0 (by omega)) (fun j _ => e 31 a j (by omega)) (fun _ _ => rfl), h2.cp (e 40 l 0 (by omega)) (fun c j _ _ _ => e c l j (by omega)) (fun j _ => e 46 l j (by omega)) (fun _ _ => rfl), h3.cp (fun j _ => e 50 b j (by omega)) (fun c j _ _ _ => e c b j (by omega)) (fun j _ => e 59 b j (by omega)) (fun _ _ => rfl),
    h4.cp ⟨e 80 t 0 (by omega), fun j _ => ⟨e 81 t j (by omega), e 82 t j (by omega)⟩⟩ ⟨e 83 t 0 (by omega), fun j _ => ⟨e 84 t j (by omega), e 85 t j (by omega)⟩⟩ ⟨e 86 t 0 (by omega), fun j _ => ⟨e 87 t j (by omega), e 88 t j (by omega)⟩⟩ ⟨e 89 t 0 (by omega), fun j _ => ⟨e 90 t j (by omega), e 91 t j (by omega)⟩⟩ ⟨e 92 t 0 (by omega), fun j _ => ⟨e 93 t j (by omega), e 94 t j (by omega)⟩⟩ (fun j _ => e 71 t j (by omega)) (fun j _ => e 72 t j (by omega)) (fun _ _ => rfl)⟩
/-- a step that only tape, reader and scratch see -/
theorem Inv.quiet {B : Nat} {M M2 : Mem} (h : Inv B M) (k : K3 QtP M M2) (hT : TapeR M2) (hW : WtR M2) (hF : FtE M2) : Inv B M2 := by
  have e : ∀ c a j, (8 ≤ c ∧ c < 40) ∨ (40 ≤ c ∧ c < 60 ∧ a ≠ 1) ∨ (60 ≤ c ∧ c < 100) → M2.1 c a j = M.1 c a j := fun c a j h => k c a j (by simp only [QtP]; omega)
  have e101 : M2.1 101 0 = M.1 101 0 := k3_col k (fun _ => by simp only [QtP]; omega)
  have e102 : M2.1 102 0 = M.1 102 0 := k3_col k (fun _ => by simp only [QtP]; omega)
  have e103 : M2.1 103 0 = M.1 103 0 := k3_col k (fun _ => by simp only [QtP]; omega)
  obtain ⟨n, nx, lc, L, C, S, n5, n6, n7, t1, t2, t3, t4, t5, h1, h2, h3, h4, h5, -, -, -, h9, h10, h11, h12⟩ := h
  obtain ⟨g1, g2, g3, g4⟩ := quiet_parts e (by decide) (by decide) h1 h2 h3 h4
  refine ⟨n, nx, lc, L, C, S, n5, n6, n7, t1, t2, t3, t4, t5, by rw [e101]; exact g1, by rw [e101]; exact g2, by rw [e101]; exact g3, by rw [e101]; exact g4, h5.frame (Nat.le_refl _) (by rw [e101]; exact ShW.refl) (e 8 0 0 (by omega)) (e 8 0 1 (by omega)) (k 100 0 4 (by simp only [QtP]; omega)) e103 (fun c a x y _ _ => funext fun j => e c a j (by omega)), hT, hW, hF, by rw [e 11 0 3 (by omega)]; exact h9, by rw [e 11 1 3 (by omega)]; exact h10, by rw [e 30 1 0 (by omega)]; exact h11, ?_⟩
  rcases h12 with ⟨y1, y2⟩ | ⟨y1, y2, y3⟩
  · exact Or.inl ⟨by rw [e 10 0 0 (by omega)]; exact y1, by rw [k 100 0 5 (by simp only [QtP]; omega)]; exact y2⟩
  · refine Or.inr ⟨by rw [e 10 0 0 (by omega)]; exact y1, by rw [k 100 0 5 (by simp only [QtP]; omega)]; exact y2, ?_⟩
    obtain ⟨lc', m5, m6, m7, L', C', S', s1, s2, s3, s4, s5, z1, z2, z3, z4⟩ := y3
    obtain ⟨f1, f2, f3, f4⟩ := quiet_parts e (by decide) (by decide) z1 z2 z3 z4
    rw [e102]
    exact ⟨lc', m5, m6, m7, L', C', S', s1, s2, s3, s4, s5, f1, f2, f3, f4⟩
