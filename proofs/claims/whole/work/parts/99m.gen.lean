/-! the invariant over a step that leaves law, plans, tape and image as they are -/
def GFr : Nat → Nat → Nat → Prop := fun c a j => (c = 3 ∧ a = 0 ∧ (j = 7 ∨ j = 11 ∨ j = 13 ∨ j = 14)) ∨ (c = 4 ∧ a = 0) ∨ (c = 108 ∧ a = 0) ∨ (c = 100 ∧ a = 0 ∧ (j = 5 ∨ j = 16 ∨ j = 23 ∨ j = 25)) ∨ (c = 11 ∧ a ≤ 1 ∧ j = 3) ∨ (c = 30 ∧ a = 1 ∧ j = 0) ∨ (c = 10 ∧ a = 0 ∧ j = 0) ∨ (c = 102 ∧ a = 0) ∨ (a = 8 ∧ 20 ≤ c ∧ c < 32) ∨ ((a = 0 ∨ a = 2) ∧ 40 ≤ c ∧ c < 60 ∧ c ≠ 47) ∨ (a = 1 ∧ (c = 71 ∨ c = 72 ∨ (80 ≤ c ∧ c < 95))) ∨ (c = 101 ∧ a = 0 ∧ ((232 ≤ j ∧ j < 236) ∨ (287 ≤ j ∧ j < 543) ∨ (1245 ≤ j ∧ j < 2129)))
theorem GFr.r3 {j : Nat} (h : j = 7 ∨ j = 11 ∨ j = 13 ∨ j = 14) : GFr 3 0 j := Or.inl (⟨rfl, rfl, h⟩)
theorem GFr.r4 {j : Nat} : GFr 4 0 j := Or.inr (Or.inl (⟨rfl, rfl⟩))
theorem GFr.r108 {j : Nat} : GFr 108 0 j := Or.inr (Or.inr (Or.inl (⟨rfl, rfl⟩)))
theorem GFr.r100 {j : Nat} (h : j = 5 ∨ j = 16 ∨ j = 23 ∨ j = 25) : GFr 100 0 j := Or.inr (Or.inr (Or.inr (Or.inl (⟨rfl, rfl, h⟩))))
theorem GFr.r11 {a : Nat} (h : a ≤ 1) : GFr 11 a 3 := Or.inr (Or.inr (Or.inr (Or.inr (Or.inl (⟨rfl, h, rfl⟩)))))
theorem GFr.r30 : GFr 30 1 0 := Or.inr (Or.inr (Or.inr (Or.inr (Or.inr (Or.inl (⟨rfl, rfl, rfl⟩))))))
theorem GFr.r10 : GFr 10 0 0 := Or.inr (Or.inr (Or.inr (Or.inr (Or.inr (Or.inr (Or.inl (⟨rfl, rfl, rfl⟩)))))))
theorem GFr.r102 {j : Nat} : GFr 102 0 j := Or.inr (Or.inr (Or.inr (Or.inr (Or.inr (Or.inr (Or.inr (Or.inl (⟨rfl, rfl⟩))))))))
theorem GFr.r8 {c j : Nat} (h1 : 20 ≤ c) (h2 : c < 32) : GFr c 8 j := Or.inr (Or.inr (Or.inr (Or.inr (Or.inr (Or.inr (Or.inr (Or.inr (Or.inl (⟨rfl, h1, h2⟩)))))))))
theorem GFr.rp {c a j : Nat} (h : a = 0 ∨ a = 2) (h1 : 40 ≤ c) (h2 : c < 60) (h3 : c ≠ 47) : GFr c a j := Or.inr (Or.inr (Or.inr (Or.inr (Or.inr (Or.inr (Or.inr (Or.inr (Or.inr (Or.inl (⟨h, h1, h2, h3⟩))))))))))
theorem GFr.rt {c j : Nat} (h : c = 71 ∨ c = 72 ∨ (80 ≤ c ∧ c < 95)) : GFr c 1 j := Or.inr (Or.inr (Or.inr (Or.inr (Or.inr (Or.inr (Or.inr (Or.inr (Or.inr (Or.inr (Or.inl (⟨rfl, h⟩)))))))))))
theorem GFr.rw {j : Nat} (h : (232 ≤ j ∧ j < 236) ∨ (287 ≤ j ∧ j < 543) ∨ (1245 ≤ j ∧ j < 2129)) : GFr 101 0 j := Or.inr (Or.inr (Or.inr (Or.inr (Or.inr (Or.inr (Or.inr (Or.inr (Or.inr (Or.inr (Or.inr (⟨rfl, rfl, h⟩)))))))))))
theorem ClT.mono {C : Cl} {n5 n6 n7 m5 m6 m7 : Nat} (h : ClT C n5 n6 n7) (h5 : n5 ≤ m5) (h6 : n6 ≤ m6) (h7 : n7 ≤ m7) : ClT C m5 m6 m7 := by
  refine ⟨h.1, fun i y p R k e hi => ?_⟩
  obtain ⟨a1, a2, a3, a4, a5, a6, a7⟩ := h.2 i y p R k e hi
  exact ⟨by omega, by omega, a3, a4, a5, a6, fun f hf => Nat.lt_of_lt_of_le (a7 f hf) h5⟩
theorem ImgR.move {B B2 : Nat} {M M2 : Mem} (h : ImgR B M) (hB : B ≤ B2) (e : ∀ c a j, GFr c a j → M2.1 c a j = M.1 c a j) : ImgR B2 M2 := by
  rcases h with ⟨y1, y2⟩ | ⟨y1, y2, y3⟩
  · exact Or.inl ⟨by rw [e 10 0 0 GFr.r10]; exact y1, by rw [e 100 0 5 (GFr.r100 (by omega))]; exact y2⟩
  · refine Or.inr ⟨by rw [e 10 0 0 GFr.r10]; exact y1, by rw [e 100 0 5 (GFr.r100 (by omega))]; exact y2, ?_⟩
    obtain ⟨lc', m5, m6, m7, L', C', S', s1, s2, s3, s4, s5, z1, z2, z3, z4⟩ := y3
    have e102 : M2.1 102 0 = M.1 102 0 := funext fun j => e 102 0 j GFr.r102
    have e8 : ∀ c j, 20 ≤ c → c < 32 → M2.1 c 8 j = M.1 c 8 j := fun c j x y => e c 8 j (GFr.r8 x y)
    have e2 : ∀ c j, 40 ≤ c → c < 60 → c ≠ 47 → M2.1 c 2 j = M.1 c 2 j := fun c j x y z => e c 2 j (GFr.rp (Or.inr rfl) x y z)
    have e1 : ∀ c j, c = 71 ∨ c = 72 ∨ (80 ≤ c ∧ c < 95) → M2.1 c 1 j = M.1 c 1 j := fun c j z => e c 1 j (GFr.rt z)
    rw [e102]
    exact ⟨lc', m5, m6, m7, L', C', S', s1, s2, s3, s4, s5, z1.cp hB (TC_eq (fun c j x y => e8 c j (by omega) (by omega))) (e8 30 0 (by omega) (by omega)) (fun j _ => e8 31 j (by omega) (by omega)) (fun _ _ => rfl), z2.cp (e2 40 0 (by omega) (by omega) (by omega)) (fun c j _ _ _ => e2 c j (by omega) (by omega) (by omega)) (fun j _ => e2 46 j (by omega) (by omega) (by omega)) (fun _ _ => rfl), z3.cp (fun j _ => e2 50 j (by omega) (by omega) (by omega)) (fun c j _ _ _ => e2 c j (by omega) (by omega) (by omega)) (fun j _ => e2 59 j (by omega) (by omega) (by omega)) (fun _ _ => rfl), z4.cp ⟨e1 80 0 (by omega), fun j _ => ⟨e1 81 j (by omega), e1 82 j (by omega)⟩⟩ ⟨e1 83 0 (by omega), fun j _ => ⟨e1 84 j (by omega), e1 85 j (by omega)⟩⟩ ⟨e1 86 0 (by omega), fun j _ => ⟨e1 87 j (by omega), e1 88 j (by omega)⟩⟩ ⟨e1 89 0 (by omega), fun j _ => ⟨e1 90 j (by omega), e1 91 j (by omega)⟩⟩ ⟨e1 92 0 (by omega), fun j _ => ⟨e1 93 j (by omega), e1 94 j (by omega)⟩⟩ (fun j _ => e1 71 j (by omega)) (fun j _ => e1 72 j (by omega)) (fun _ _ => rfl)⟩
def GFl : Nat → Nat → Nat → Prop := fun c a j => (c = 3 ∧ a = 0 ∧ (j = 7 ∨ j = 11 ∨ j = 13 ∨ j = 14)) ∨ (c = 4 ∧ a = 0) ∨ (c = 108 ∧ a = 0) ∨ (c = 100 ∧ a = 0 ∧ (j = 16 ∨ j = 23 ∨ j = 25)) ∨ (c = 11 ∧ a ≤ 1 ∧ j = 3) ∨ (c = 30 ∧ a = 1 ∧ j = 0)
theorem GFl.r3 {j : Nat} (h : j = 7 ∨ j = 11 ∨ j = 13 ∨ j = 14) : GFl 3 0 j := Or.inl (⟨rfl, rfl, h⟩)
theorem GFl.r4 {j : Nat} : GFl 4 0 j := Or.inr (Or.inl (⟨rfl, rfl⟩))
theorem GFl.r108 {j : Nat} : GFl 108 0 j := Or.inr (Or.inr (Or.inl (⟨rfl, rfl⟩)))
theorem GFl.r100 {j : Nat} (h : j = 16 ∨ j = 23 ∨ j = 25) : GFl 100 0 j := Or.inr (Or.inr (Or.inr (Or.inl (⟨rfl, rfl, h⟩))))
theorem GFl.r11 {a : Nat} (h : a ≤ 1) : GFl 11 a 3 := Or.inr (Or.inr (Or.inr (Or.inr (Or.inl (⟨rfl, h, rfl⟩)))))
theorem GFl.r30 : GFl 30 1 0 := Or.inr (Or.inr (Or.inr (Or.inr (Or.inr (⟨rfl, rfl, rfl⟩)))))
theorem GFl.up {c a j : Nat} (z : GFl c a j) : GFr c a j := by
  rcases z with ⟨rfl, rfl, z⟩ | ⟨rfl, rfl⟩ | ⟨rfl, rfl⟩ | ⟨rfl, rfl, z⟩ | ⟨rfl, z, rfl⟩ | ⟨rfl, rfl, rfl⟩
  · exact GFr.r3 z
  · exact GFr.r4
  · exact GFr.r108
  · exact GFr.r100 (by omega)
  · exact GFr.r11 z
  · exact GFr.r30
theorem GFr.no {P : Nat → Nat → Nat → Prop} (h3 : ∀ j, j = 7 ∨ j = 11 ∨ j = 13 ∨ j = 14 → ¬ P 3 0 j) (h4 : ∀ j, ¬ P 4 0 j) (h108 : ∀ j, ¬ P 108 0 j) (h100 : ∀ j, j = 5 ∨ j = 16 ∨ j = 23 ∨ j = 25 → ¬ P 100 0 j) (h11 : ∀ a, a ≤ 1 → ¬ P 11 a 3) (h30 : ¬ P 30 1 0) (h10 : ¬ P 10 0 0) (h102 : ∀ j, ¬ P 102 0 j) (h8 : ∀ c j, 20 ≤ c → c < 32 → ¬ P c 8 j) (hp : ∀ c a j, a = 0 ∨ a = 2 → 40 ≤ c → c < 60 → c ≠ 47 → ¬ P c a j) (ht : ∀ c j, c = 71 ∨ c = 72 ∨ (80 ≤ c ∧ c < 95) → ¬ P c 1 j) (hw : ∀ j, (232 ≤ j ∧ j < 236) ∨ (287 ≤ j ∧ j < 543) ∨ (1245 ≤ j ∧ j < 2129) → ¬ P 101 0 j) {c a j : Nat} (z : GFr c a j) : ¬ P c a j := by
  rcases z with ⟨rfl, rfl, z⟩ | ⟨rfl, rfl⟩ | ⟨rfl, rfl⟩ | ⟨rfl, rfl, z⟩ | ⟨rfl, z, rfl⟩ | ⟨rfl, rfl, rfl⟩ | ⟨rfl, rfl, rfl⟩ | ⟨rfl, rfl⟩ | ⟨rfl, z1, z2⟩ | ⟨z, z1, z2, z3⟩ | ⟨rfl, z⟩ | ⟨rfl, rfl, z⟩
  · exact h3 _ z
  · exact h4 _
  · exact h108 _
  · exact h100 _ z
  · exact h11 _ z
  · exact h30
  · exact h10
  · exact h102 _
  · exact h8 _ _ z1 z2
  · exact hp _ _ _ z z1 z2 z3
  · exact ht _ _ z
  · exact hw _ z
theorem GFr.ne {c a j : Nat} (z : GFr c a j) : c ≠ 101 ∨ a = 0 := by
  rcases z with ⟨rfl, rfl, z⟩ | ⟨rfl, rfl⟩ | ⟨rfl, rfl⟩ | ⟨rfl, rfl, z⟩ | ⟨rfl, z, rfl⟩ | ⟨rfl, rfl, rfl⟩ | ⟨rfl, rfl, rfl⟩ | ⟨rfl, rfl⟩ | ⟨rfl, z1, z2⟩ | ⟨z, z1, z2, z3⟩ | ⟨rfl, z⟩ | ⟨rfl, rfl, z⟩ <;> omega
theorem Inv.mk3 {B B2 : Nat} {M M2 : Mem} (h : Inv B M) (e : ∀ c a j, GFl c a j → M2.1 c a j = M.1 c a j) (hs : ∃ (n nx lc : Nat) (L : Lw) (C : Cl) (S : Sk) (n5 n6 n7 t1 t2 t3 t4 t5 : Nat), LdS B2 M2 0 (M2.1 101 0) lc n5 n6 n7 ∧ LwS M2 0 (M2.1 101 0) L ∧ PlS M2 0 (M2.1 101 0) C S n5 n6 n7 ∧ TlS M2 0 (M2.1 101 0) t1 t2 t3 t4 t5 ∧ PastJ B2 M2 n n n nx lc) (hi : ImgR B2 M2) : Inv B2 M2 := by
  obtain ⟨n, nx, lc, L, C, S, n5, n6, n7, t1, t2, t3, t4, t5, -, -, -, -, -, ⟨tn, q1, q2, q3, q4⟩, ⟨w, hw, q5⟩, ⟨q6, q7⟩, h9, h10, h11, h12⟩ := h
  obtain ⟨n', nx', lc', L', C', S', m5, m6, m7, s1, s2, s3, s4, s5, g1, g2, g3, g4, g5⟩ := hs
  have eR : ∀ j, j = 7 ∨ j = 11 ∨ j = 13 ∨ j = 14 → M2.1 3 0 j = M.1 3 0 j := fun j hj => e 3 0 j (GFl.r3 hj)
  have eM : ∀ j, j = 16 ∨ j = 23 ∨ j = 25 → M2.1 100 0 j = M.1 100 0 j := fun j hj => e 100 0 j (GFl.r100 hj)
  have e4 : ∀ j, M2.1 4 0 j = M.1 4 0 j := fun j => e 4 0 j GFl.r4
  have e108 : ∀ j, M2.1 108 0 j = M.1 108 0 j := fun j => e 108 0 j GFl.r108
  exact ⟨n', nx', lc', L', C', S', m5, m6, m7, s1, s2, s3, s4, s5, g1, g2, g3, g4, g5, ⟨tn, q1, by rw [eR _ (by omega)]; exact q2, by rw [eM _ (by omega)]; exact q3, fun j hj => by rw [e4, e108]; exact q4 j hj⟩, ⟨w, hw, by rw [eR _ (by omega)]; exact q5⟩, ⟨by rw [eR _ (by omega), eM _ (by omega)]; exact q6, by rw [eR _ (by omega), eM _ (by omega)]; exact q7⟩,
    by rw [e 11 0 3 (GFl.r11 (by omega))]; exact h9, by rw [e 11 1 3 (GFl.r11 (by omega))]; exact h10, by rw [e 30 1 0 GFl.r30]; exact h11, hi⟩
theorem Inv.gen {B B2 : Nat} {M M2 : Mem} (h : Inv B M) (hB : B ≤ B2) (e : ∀ c a j, GFr c a j → M2.1 c a j = M.1 c a j)
    (hl : ∀ n nx lc n5 n6 n7, LdS B M 0 (M.1 101 0) lc n5 n6 n7 → PastJ B M n n n nx lc → ∃ n' nx' lc' m5 m6 m7, n5 ≤ m5 ∧ n6 ≤ m6 ∧ n7 ≤ m7 ∧ LdS B2 M2 0 (M2.1 101 0) lc' m5 m6 m7 ∧ PastJ B2 M2 n' n' n' nx' lc')
    (ht : ∀ t1 t2 t3 t4 t5, TlS M 0 (M.1 101 0) t1 t2 t3 t4 t5 → ∃ s1 s2 s3 s4 s5, TlS M2 0 (M2.1 101 0) s1 s2 s3 s4 s5) : Inv B2 M2 := by
  have h0 := h
  obtain ⟨n, nx, lc, L, C, S, n5, n6, n7, t1, t2, t3, t4, t5, h1, h2, h3, h4, h5, -, -, -, -, -, -, h12⟩ := h0
  obtain ⟨n', nx', lc', m5, m6, m7, b5, b6, b7, g1, g5⟩ := hl n nx lc n5 n6 n7 h1 h5
  obtain ⟨s1, s2, s3, s4, s5, g4⟩ := ht t1 t2 t3 t4 t5 h4
  have eP : ∀ c j, 40 ≤ c → c < 60 → c ≠ 47 → M2.1 c 0 j = M.1 c 0 j := fun c j x y z => e c 0 j (GFr.rp (Or.inl rfl) x y z)
  have eW : ∀ j, (232 ≤ j ∧ j < 236) ∨ (287 ≤ j ∧ j < 543) ∨ (1245 ≤ j ∧ j < 2129) → M2.1 101 0 j = M.1 101 0 j := fun j hj => e 101 0 j (GFr.rw hj)
  have g3 : PlS M2 0 (M2.1 101 0) C S n5 n6 n7 := h3.cp (fun j _ => eP 50 j (by omega) (by omega) (by omega)) (fun c j _ _ _ => eP c j (by omega) (by omega) (by omega)) (fun j _ => eP 59 j (by omega) (by omega) (by omega)) (fun k hk => eW k (by omega))
  exact h.mk3 (fun c a j z => e c a j z.up) ⟨n', nx', lc', L, C, S, m5, m6, m7, s1, s2, s3, s4, s5, g1, h2.cp (eP 40 0 (by omega) (by omega) (by omega)) (fun c j _ _ _ => eP c j (by omega) (by omega) (by omega)) (fun j _ => eP 46 j (by omega) (by omega) (by omega)) (fun k hk => eW k (by omega)), ⟨g3.1, g3.2.1, g3.2.2.1.mono b5 b6 b7, g3.2.2.2⟩, g4, g5⟩ (h12.move hB e)
theorem Inv.mono {B B2 : Nat} {M : Mem} (h : Inv B M) (hB : B ≤ B2) : Inv B2 M := h.gen hB (fun _ _ _ _ => rfl) (fun n nx lc n5 n6 n7 g1 g2 => ⟨n, nx, lc, n5, n6, n7, Nat.le_refl _, Nat.le_refl _, Nat.le_refl _, g1.cp hB rfl rfl (fun _ _ => rfl) (fun _ _ => rfl), g2.mono hB⟩) (fun t1 t2 t3 t4 t5 g => ⟨t1, t2, t3, t4, t5, g⟩)
theorem LdS.wld {B : Nat} {M : Mem} {lc n5 n6 n7 : Nat} (h : LdS B M 0 (M.1 101 0) lc n5 n6 n7) : WldL B M lc := by
  obtain ⟨g1, g2, ⟨k, g3, g4⟩, g5⟩ := h
  have g6 : TM M 20 6 = iN n6 := g2.2.2.2.2.1
  have b6 : n6 ≤ 8 := g2.2.1
  exact ⟨g1, ⟨n5, n6, n7, g2⟩, ⟨k, by rw [g6, ix_of (by omega)]; exact g3, g4⟩, g5⟩
theorem WldL.landI {B : Nat} {M : Mem} {lc : Nat} (h : WldL B M lc) : LandI M := ⟨h.1, h.2.1.cnt, h.2.2.1⟩
theorem WldL.lds {B : Nat} {M : Mem} {lc : Nat} (h : WldL B M lc) : ∃ n5 n6 n7, LdS B M 0 (M.1 101 0) lc n5 n6 n7 := by
  obtain ⟨g1, ⟨n5, n6, n7, g2⟩, ⟨k, g3, g4⟩, g5⟩ := h
  have g6 : TM M 20 6 = iN n6 := g2.2.2.2.2.1
  have b6 : n6 ≤ 8 := g2.2.1
  rw [g6, ix_of (by omega)] at g3
  exact ⟨n5, n6, n7, g1, g2, ⟨k, g3, g4⟩, g5⟩
/-- what only the told things see -/
theorem Inv.told {B : Nat} {M M2 : Mem} {P : Nat → Nat → Prop} {R : Nat → Prop} (h : Inv B M) (k : Keep P R M M2) (hP : ∀ c a, P c a → a = 0 ∧ (c = 71 ∨ c = 72 ∨ (80 ≤ c ∧ c < 95))) (hR : ∀ j, R j → (236 ≤ j ∧ j < 241) ∨ (543 ≤ j ∧ j < 645))
    (ht : ∀ t1 t2 t3 t4 t5, TlS M 0 (M.1 101 0) t1 t2 t3 t4 t5 → ∃ s1 s2 s3 s4 s5, TlS M2 0 (M2.1 101 0) s1 s2 s3 s4 s5) : Inv B M2 := by
  have e : ∀ c a j, ¬ (a = 0 ∧ (c = 71 ∨ c = 72 ∨ (80 ≤ c ∧ c < 95))) → c ≠ 101 → M2.1 c a j = M.1 c a j := fun c a j hc h1 => congrFun (k.1 c a (fun z => hc (hP c a z)) h1) j
  have ew : ∀ j, ¬ ((236 ≤ j ∧ j < 241) ∨ (543 ≤ j ∧ j < 645)) → M2.1 101 0 j = M.1 101 0 j := fun j hj => k.2 j (fun z => hj (hR j z))
  refine h.gen (Nat.le_refl _) (fun c a j z => ?_) (fun n nx lc n5 n6 n7 g1 g2 => ?_) ht
  · refine GFr.no (P := fun c a j => M2.1 c a j ≠ M.1 c a j) (fun j _ z => z (e _ _ _ (by omega) (by omega))) (fun j z => z (e _ _ _ (by omega) (by omega))) (fun j z => z (e _ _ _ (by omega) (by omega))) (fun j _ z => z (e _ _ _ (by omega) (by omega))) (fun a _ z => z (e _ _ _ (by omega) (by omega))) (fun z => z (e _ _ _ (by omega) (by omega))) (fun z => z (e _ _ _ (by omega) (by omega))) (fun j z => z (e _ _ _ (by omega) (by omega))) (fun c j _ _ z => z (e _ _ _ (by omega) (by omega))) (fun c a j _ _ _ _ z => z (e _ _ _ (by omega) (by omega))) (fun c j _ z => z (e _ _ _ (by omega) (by omega))) (fun j hj z => z (ew _ (by omega))) z |> Classical.not_not.mp
  · have hlc : lc ≤ 150 := g1.2.2.2.1
    exact ⟨n, nx, lc, n5, n6, n7, Nat.le_refl _, Nat.le_refl _, Nat.le_refl _, g1.cp (Nat.le_refl _) (TC_eq (fun c j x y => e c 0 j (by omega) (by omega))) (e 30 0 0 (by omega) (by omega)) (fun j _ => e 31 0 j (by omega) (by omega)) (fun k hk => ew k (by omega)), g2.frame (Nat.le_refl _) ⟨fun k hk => ew k (by omega), fun j hj => ew _ (by omega)⟩ (e 8 0 0 (by omega) (by omega)) (e 8 0 1 (by omega) (by omega)) (e 100 0 4 (by omega) (by omega)) (funext fun j => e 103 0 j (by omega) (by omega)) (fun c a x y _ _ => funext fun j => e c a j (by omega) (by omega))⟩
/-- scratch -/
abbrev ScP : Nat → Nat → Nat → Prop := fun c a j => c = 12 ∨ c = 47 ∨ c = 60 ∨ c = 61 ∨ (73 ≤ c ∧ c < 78) ∨ (104 ≤ c ∧ c < 108) ∨ (109 ≤ c ∧ c < 120) ∨ (a = 1 ∧ 20 ≤ c ∧ c < 30) ∨ (c = 11 ∧ a = 1 ∧ j = 5) ∨ (c = 30 ∧ a = 1 ∧ 1 ≤ j) ∨ (c = 100 ∧ (j = 26 ∨ j = 28 ∨ j = 29))
theorem Inv.scr {B : Nat} {M M2 : Mem} (h : Inv B M) (e : ∀ c a j, ¬ ScP c a j → (c ≠ 101 ∨ a = 0) → M2.1 c a j = M.1 c a j) : Inv B M2 := by
  have e' : ∀ c j, ¬ (c = 12 ∨ c = 47 ∨ c = 60 ∨ c = 61 ∨ (73 ≤ c ∧ c < 78) ∨ (104 ≤ c ∧ c < 108) ∨ (109 ≤ c ∧ c < 120) ∨ (c = 100 ∧ (j = 26 ∨ j = 28 ∨ j = 29))) → M2.1 c 0 j = M.1 c 0 j := fun c j hc => e c 0 j (by simp only [ScP]; omega) (Or.inr rfl)
  have e101 : M2.1 101 0 = M.1 101 0 := funext fun j => e' 101 j (by omega)
  refine h.gen (Nat.le_refl _) (fun c a j z => e c a j (GFr.no (P := ScP) (fun j _ => by simp only [ScP]; omega) (fun j => by simp only [ScP]; omega) (fun j => by simp only [ScP]; omega) (fun j _ => by simp only [ScP]; omega) (fun a _ => by simp only [ScP]; omega) (by simp only [ScP]; omega) (by simp only [ScP]; omega) (fun j => by simp only [ScP]; omega) (fun c j _ _ => by simp only [ScP]; omega) (fun c a j _ _ _ _ => by simp only [ScP]; omega) (fun c j _ => by simp only [ScP]; omega) (fun j _ => by simp only [ScP]; omega) z) z.ne) (fun n nx lc n5 n6 n7 g1 g2 => ?_) (fun t1 t2 t3 t4 t5 g => ?_)
  · rw [e101]
    exact ⟨n, nx, lc, n5, n6, n7, Nat.le_refl _, Nat.le_refl _, Nat.le_refl _, g1.cp (Nat.le_refl _) (TC_eq (fun c j x y => e' c j (by omega))) (e' 30 0 (by omega)) (fun j _ => e' 31 j (by omega)) (fun _ _ => rfl), g2.frame (Nat.le_refl _) (by rw [e101]; exact ShW.refl) (e' 8 0 (by omega)) (e' 8 1 (by omega)) (e' 100 4 (by omega)) (funext fun j => e' 103 j (by omega)) (fun c a x y _ _ => funext fun j => e c a j (by simp only [ScP]; omega) (by omega))⟩
  · rw [e101]
    exact ⟨t1, t2, t3, t4, t5, g.cp ⟨e' 80 0 (by omega), fun j _ => ⟨e' 81 j (by omega), e' 82 j (by omega)⟩⟩ ⟨e' 83 0 (by omega), fun j _ => ⟨e' 84 j (by omega), e' 85 j (by omega)⟩⟩ ⟨e' 86 0 (by omega), fun j _ => ⟨e' 87 j (by omega), e' 88 j (by omega)⟩⟩ ⟨e' 89 0 (by omega), fun j _ => ⟨e' 90 j (by omega), e' 91 j (by omega)⟩⟩ ⟨e' 92 0 (by omega), fun j _ => ⟨e' 93 j (by omega), e' 94 j (by omega)⟩⟩ (fun j _ => e' 71 j (by omega)) (fun j _ => e' 72 j (by omega)) (fun _ _ => rfl)⟩
theorem Inv.scr3 {B : Nat} {M M2 : Mem} {P : Nat → Nat → Nat → Prop} (h : Inv B M) (k : K3 P M M2) (hP : ∀ c a j, P c a j → ScP c a j) : Inv B M2 := h.scr (fun c a j hc _ => k c a j (fun z => hc (hP c a j z)))
theorem Inv.scrK {B : Nat} {M M2 : Mem} {P : Nat → Nat → Prop} (h : Inv B M) (k : Keep P noR M M2) (hP : ∀ c a j, P c a → ScP c a j) : Inv B M2 := h.scr (fun c a j hc h1 => by
  by_cases hc1 : c = 101
  · rcases h1 with h1 | h1
    · exact absurd hc1 h1
    · subst hc1 h1
      exact k.2 j (fun z => z)
  · exact congrFun (k.1 c a (fun z => hc (hP c a j z)) hc1) j)
