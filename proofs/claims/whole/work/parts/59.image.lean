/-! the whole state: land, law, plans, what is told; image -/
theorem SgC_cp {f g : Nat → Int32} (hg : ∀ j, j < 400 → g j = f j) : ∀ {r : List Int32} {i : Nat}, SgC f i r → i + r.length ≤ 400 → SgC g i r
  | [], _, _, _ => trivial
  | x :: r, i, h, hl => by
    simp only [List.length_cons] at hl
    exact ⟨by rw [hg i (by omega)]; exact h.1, SgC_cp hg h.2 (by omega)⟩
theorem SgR_cp {W W2 : Nat → Int32} (hg : ∀ k, 1245 ≤ k → k < 2129 → W2 k = W k) : ∀ {r : Cds} {i : Nat}, SgR W i r → i + r.length ≤ 410 → SgR W2 i r
  | [], _, _, _ => trivial
  | (s, v) :: r, i, h, hl => by
    simp only [List.length_cons] at hl
    exact ⟨by rw [hg _ (by omega) (by omega)]; exact h.1, fun z => by rw [hg _ (by omega) (by omega)]; exact h.2.1 z, SgR_cp hg h.2.2 (by omega)⟩
theorem LawC.cp {M M2 : Mem} {l l2 : Nat} {L : Lw} (h : LawC M l L) (ht : LawT L) (h0 : M2.1 40 l2 0 = M.1 40 l 0) (h1 : ∀ c j, 42 ≤ c → c < 46 → j < 16 → M2.1 c l2 j = M.1 c l j) (h2 : ∀ j, j < 400 → M2.1 46 l2 j = M.1 46 l j) : LawC M2 l2 L := by
  refine ⟨by rw [h0]; exact h.1, fun i w cv cc hi => ?_⟩
  have hil : i < L.length := (List.getElem?_eq_some_iff.mp hi).1
  have hl := ht.1
  obtain ⟨g1, F, Fm, Fe, g2, g3, g4, g5, g6, g7, g8, g9⟩ := h.2 i w cv cc hi
  exact ⟨by rw [h1 42 i (by decide) (by decide) (by omega)]; exact g1, F, Fm, Fe, by rw [h1 43 i (by decide) (by decide) (by omega)]; exact g2, by rw [h1 44 i (by decide) (by decide) (by omega)]; exact g3, by rw [h1 45 i (by decide) (by decide) (by omega)]; exact g4, g5, g6, g7, SgC_cp h2 g8 (by omega), SgC_cp h2 g9 (by omega)⟩
theorem LawM.cp {W W2 : Nat → Int32} {L : Lw} (h : LawM W L) (ht : LawT L) (h0 : W2 232 = W 232) (h1 : ∀ k, 1245 ≤ k → k < 2129 → W2 k = W k) : LawM W2 L := by
  refine ⟨by rw [h0]; exact h.1, fun i w cv cc hi => ?_⟩
  have hil : i < L.length := (List.getElem?_eq_some_iff.mp hi).1
  have hl := ht.1
  obtain ⟨g1, f, m, t, g2, g3, g4, g5, g6, g7, g8, g9⟩ := h.2 i w cv cc hi
  exact ⟨by rw [h1 _ (by omega) (by omega)]; exact g1, f, m, t, by rw [h1 _ (by omega) (by omega)]; exact g2, by rw [h1 _ (by omega) (by omega)]; exact g3, by rw [h1 _ (by omega) (by omega)]; exact g4, g5, g6, g7, SgR_cp h1 g8 (by omega), SgR_cp h1 g9 (by omega)⟩
theorem ToldR.cp {M M2 : Mem} {b a a2 : Nat} {W W2 : Nat → Int32} {ci off str cap n : Nat} {G : Int32 → Int32 → Bool} (h : ToldR M b a W ci off str cap G n) (h0 : M2.1 b a2 0 = M.1 b a 0) (h1 : ∀ j, j < n → M2.1 (b + 1) a2 j = M.1 (b + 1) a j ∧ M2.1 (b + 2) a2 j = M.1 (b + 2) a j) (hc : W2 ci = W ci) (hw : ∀ k, off ≤ k → k < off + str * cap → W2 k = W k) (hs : str = 1 ∨ str = 2) : ToldR M2 b a2 W2 ci off str cap G n := by
  obtain ⟨q1, q2, q3, q4, q5, q6⟩ := h
  have hb : ∀ j, j < n → str * j + str ≤ str * cap := fun j hj => by
    rcases hs with rfl | rfl <;> omega
  refine ⟨q1, by rw [h0]; exact q2, by rw [hc]; exact q3, fun j hj => ?_, fun hs2 j hj => ?_, fun j hj => ?_⟩
  · have := hb j hj
    rw [(h1 j hj).1, hw _ (by omega) (by rcases hs with h | h <;> omega)]
    exact q4 j hj
  · have := hb j hj
    rw [(h1 j hj).2, hw _ (by omega) (by omega)]
    exact q5 hs2 j hj
  · rw [(h1 j hj).1, (h1 j hj).2]
    exact q6 j hj
abbrev GC : Int32 → Int32 → Bool := fun x y => inR x 0 99 && inR y 1 30
def LdS (B : Nat) (M : Mem) (a : Nat) (W : Nat → Int32) (lc n5 n6 n7 : Nat) : Prop := TC M a = TW W ∧ VTn B (TW W) n5 n6 n7 ∧ (∃ k : Nat, k < 2 ^ n6 ∧ W 6 = iN k) ∧ BookR M a W lc
def LwS (M : Mem) (l : Nat) (W : Nat → Int32) (L : Lw) : Prop := LawC M l L ∧ LawM W L ∧ LawT L
def PlS (M : Mem) (b : Nat) (W : Nat → Int32) (C : Cl) (S : Sk) (n5 n6 n7 : Nat) : Prop := ClC M b C ∧ ClM W C ∧ ClT C n5 n6 n7 ∧ SkC M b S ∧ SkM W S ∧ SkT S ∧ WayR M b W ∧ M.1 50 b 2 = W 235 ∧ ∀ i j, i < 8 → j < 8 → M.1 59 b (8 * i + j) = M.1 59 b (8 * j + i)
def TlS (M : Mem) (t : Nat) (W : Nat → Int32) (t1 t2 t3 t4 t5 : Nat) : Prop := ToldR M 80 t W 236 557 2 10 GW t1 ∧ ToldR M 83 t W 237 577 2 10 GC t2 ∧ ToldR M 86 t W 238 597 1 20 GV t3 ∧ ToldR M 89 t W 239 617 2 8 GO t4 ∧ ToldR M 92 t W 240 633 1 12 GV t5 ∧ SumR M t W ∧ GarR M t W
theorem LdS.cp {B B2 : Nat} {M M2 : Mem} {a a2 lc n5 n6 n7 : Nat} {W W2 : Nat → Int32} (h : LdS B M a W lc n5 n6 n7) (hB : B ≤ B2) (h1 : TC M2 a2 = TC M a) (h2 : M2.1 30 a2 0 = M.1 30 a 0) (h3 : ∀ j, j < 600 → M2.1 31 a2 j = M.1 31 a j) (hw : ∀ k, k < 232 ∨ (241 ≤ k ∧ k < 287) ∨ (645 ≤ k ∧ k < 1245) → W2 k = W k) : LdS B2 M2 a2 W2 lc n5 n6 n7 := by
  obtain ⟨g1, g2, ⟨k, g3, g4⟩, g5, g6, g7, g8⟩ := h
  have eW : TW W2 = TW W := TW_ext (fun k hk => hw k (by omega))
  exact ⟨by rw [h1, g1, eW], by rw [eW]; exact g2.mono hB, ⟨k, g3, by rw [hw 6 (by omega)]; exact g4⟩, g5, by rw [h2]; exact g6, by rw [hw 5 (by omega)]; exact g7, fun j hj => by rw [h3 j (by omega), hw _ (by omega)]; exact g8 j hj⟩
theorem LwS.cp {M M2 : Mem} {l l2 : Nat} {W W2 : Nat → Int32} {L : Lw} (h : LwS M l W L) (h0 : M2.1 40 l2 0 = M.1 40 l 0) (h1 : ∀ c j, 42 ≤ c → c < 46 → j < 16 → M2.1 c l2 j = M.1 c l j) (h2 : ∀ j, j < 400 → M2.1 46 l2 j = M.1 46 l j) (hw : ∀ k, k = 232 ∨ (1245 ≤ k ∧ k < 2129) → W2 k = W k) : LwS M2 l2 W2 L :=
  ⟨h.1.cp h.2.2 h0 h1 h2, h.2.1.cp h.2.2 (hw _ (Or.inl rfl)) (fun k a b => hw k (Or.inr ⟨a, b⟩)), h.2.2⟩
theorem PlS.cp {M M2 : Mem} {b b2 : Nat} {W W2 : Nat → Int32} {C : Cl} {S : Sk} {n5 n6 n7 : Nat} (h : PlS M b W C S n5 n6 n7) (h0 : ∀ j, j < 3 → M2.1 50 b2 j = M.1 50 b j) (h1 : ∀ c j, 53 ≤ c → c < 59 → j < 16 → M2.1 c b2 j = M.1 c b j) (h2 : ∀ j, j < 64 → M2.1 59 b2 j = M.1 59 b j) (hw : ∀ k, (233 ≤ k ∧ k < 236) ∨ (287 ≤ k ∧ k < 543) → W2 k = W k) : PlS M2 b2 W2 C S n5 n6 n7 := by
  obtain ⟨g1, g2, g3, g4, g5, g6, g7, g8, g9⟩ := h
  have l1 := g3.1
  have l2 := g6.1
  refine ⟨⟨by rw [h0 0 (by decide)]; exact g1.1, fun i y p R k e hi => ?_⟩, ⟨by rw [hw _ (by decide)]; exact g2.1, fun i y p R k e hi => ?_⟩, g3, ⟨by rw [h0 1 (by decide)]; exact g4.1, fun i y s hi => ?_⟩, ⟨by rw [hw _ (by decide)]; exact g5.1, fun i y s hi => ?_⟩, g6, fun i j hi hj => ?_, by rw [h0 2 (by decide), hw 235 (by decide)]; exact g8, fun i j hi hj => by rw [h2 _ (by omega), h2 _ (by omega)]; exact g9 i j hi hj⟩
  · have hil : i < C.length := (List.getElem?_eq_some_iff.mp hi).1
    rw [h1 53 i (by decide) (by decide) (by omega), h1 54 i (by decide) (by decide) (by omega), h1 55 i (by decide) (by decide) (by omega), h1 56 i (by decide) (by decide) (by omega)]
    exact g1.2 i y p R k e hi
  · have hil : i < C.length := (List.getElem?_eq_some_iff.mp hi).1
    have hk6 := (g3.2 i y p R k e hi).2.2.2.1
    obtain ⟨a1, a2, a3, a4, a5⟩ := g2.2 i y p R k e hi
    exact ⟨by rw [hw _ (by omega)]; exact a1, by rw [hw _ (by omega)]; exact a2, by rw [hw _ (by omega)]; exact a3, fun j hj => by rw [hw _ (by omega)]; exact a4 j hj, fun j q1 q2 => by rw [hw _ (by omega)]; exact a5 j q1 q2⟩
  · have hil : i < S.length := (List.getElem?_eq_some_iff.mp hi).1
    rw [h1 57 i (by decide) (by decide) (by omega), h1 58 i (by decide) (by decide) (by omega)]
    exact g4.2 i y s hi
  · have hil : i < S.length := (List.getElem?_eq_some_iff.mp hi).1
    obtain ⟨a1, a2, a3, a4⟩ := g5.2 i y s hi
    exact ⟨by rw [hw _ (by omega)]; exact a1, fun z => by rw [hw _ (by omega), hw _ (by omega)]; exact a2 z, fun z => by rw [hw _ (by omega)]; exact a3 z, fun z => by rw [hw _ (by omega)]; exact a4 z⟩
  · rw [h2 _ (by omega), hw _ (by omega)]
    exact g7 i j hi hj
theorem TlS.cp {M M2 : Mem} {t t' : Nat} {W W2 : Nat → Int32} {t1 t2 t3 t4 t5 : Nat} (h : TlS M t W t1 t2 t3 t4 t5)
    (h1 : M2.1 80 t' 0 = M.1 80 t 0 ∧ ∀ j, j < t1 → M2.1 81 t' j = M.1 81 t j ∧ M2.1 82 t' j = M.1 82 t j) (h2 : M2.1 83 t' 0 = M.1 83 t 0 ∧ ∀ j, j < t2 → M2.1 84 t' j = M.1 84 t j ∧ M2.1 85 t' j = M.1 85 t j) (h3 : M2.1 86 t' 0 = M.1 86 t 0 ∧ ∀ j, j < t3 → M2.1 87 t' j = M.1 87 t j ∧ M2.1 88 t' j = M.1 88 t j) (h4 : M2.1 89 t' 0 = M.1 89 t 0 ∧ ∀ j, j < t4 → M2.1 90 t' j = M.1 90 t j ∧ M2.1 91 t' j = M.1 91 t j) (h5 : M2.1 92 t' 0 = M.1 92 t 0 ∧ ∀ j, j < t5 → M2.1 93 t' j = M.1 93 t j ∧ M2.1 94 t' j = M.1 94 t j)
    (h6 : ∀ j, j < 6 → M2.1 71 t' j = M.1 71 t j) (h7 : ∀ j, j < 8 → M2.1 72 t' j = M.1 72 t j) (hw : ∀ k, (236 ≤ k ∧ k < 241) ∨ (543 ≤ k ∧ k < 645) → W2 k = W k) : TlS M2 t' W2 t1 t2 t3 t4 t5 := by
  obtain ⟨g1, g2, g3, g4, g5, g6, g7⟩ := h
  refine ⟨g1.cp h1.1 h1.2 (hw _ (by omega)) (fun k a b => hw k (by omega)) (Or.inr rfl), g2.cp h2.1 h2.2 (hw _ (by omega)) (fun k a b => hw k (by omega)) (Or.inr rfl), g3.cp h3.1 h3.2 (hw _ (by omega)) (fun k a b => hw k (by omega)) (Or.inl rfl), g4.cp h4.1 h4.2 (hw _ (by omega)) (fun k a b => hw k (by omega)) (Or.inr rfl), g5.cp h5.1 h5.2 (hw _ (by omega)) (fun k a b => hw k (by omega)) (Or.inl rfl), fun j hj => ?_, fun j hj => ?_⟩
  · obtain ⟨n, a1, a2, a3⟩ := g6 j hj
    exact ⟨n, a1, by rw [h6 j hj]; exact a2, by rw [hw _ (by omega)]; exact a3⟩
  · obtain ⟨n, a1, a2, a3⟩ := g7 j hj
    exact ⟨n, a1, by rw [h7 j hj]; exact a2, by rw [hw _ (by omega)]; exact a3⟩
def St (B : Nat) (M : Mem) (a l b t : Nat) (W : Nat → Int32) : Prop := ∃ (lc n5 n6 n7 : Nat) (L : Lw) (C : Cl) (S : Sk) (t1 t2 t3 t4 t5 : Nat), LdS B M a W lc n5 n6 n7 ∧ LwS M l W L ∧ PlS M b W C S n5 n6 n7 ∧ TlS M t W t1 t2 t3 t4 t5
theorem c272_copy {X : Cx} {d : Nat} {M : Mem} {v : Int32} : ∃ M', (∀ k, k < 2129 → M'.1 (if v = 0 then 101 else 102) 0 k = M.1 (if v = 0 then 102 else 101) 0 k) ∧ K3 (fun c a _ => c = (if v = 0 then 101 else 102) ∧ a = 0) M M' ∧ ∀ Q : Option Vl → Mem → Prop, V X (d + 1) 272 15 [some (vR 100 0), some (vI v), some (vI (iN 2129))] [] M' Q → V X (d + 1) 272 15 [some (vR 100 0), some (vI v), some (vI 0)] [] M Q := by
  obtain ⟨M2, ⟨i1, i2⟩, hV⟩ := for_fwd (n := 2129) (M := M)
    (I := fun t Mt => (∀ k, k < t → Mt.1 (if v = 0 then 101 else 102) 0 k = M.1 (if v = 0 then 102 else 101) 0 k) ∧ K3 (fun c a _ => c = (if v = 0 then 101 else 102) ∧ a = 0) M Mt)
    (St := fun t Mt Q => V X (d + 1) 272 15 [some (vR 100 0), some (vI v), some (vI (iN t))] [] Mt Q)
    (by
      rintro t Mt ht ⟨g1, g2⟩
      refine ⟨st Mt (if v = 0 then 101 else 102) 0 t (M.1 (if v = 0 then 102 else 101) 0 t), ⟨fun k hk => ?_, k3_trans g2 (k3_st ⟨rfl, rfl⟩)⟩, fun Q hQ => w272_15 ?_⟩
      · by_cases hkt : k = t
        · subst hkt
          rw [st_at]
        · rw [st_ne3 (fun z => hkt z.2.2)]
          exact g1 k (by omega)
      · have f1 : (2129 ≤ iN t) = False := nle_ (a := 2129) (by decide) (by omega) ht
        have f2 : inb (iN t) 2129 := inb_of (by omega) (by decide)
        have f3 : ix (iN t) = t := ix_of (by omega)
        by_cases hv : v = 0
        · rw [if_pos hv, if_pos hv] at hQ
          have g3 : Mt.1 102 0 t = M.1 102 0 t := g2 102 0 t (by rw [if_pos hv]; omega)
          simp only [forall_eq, true_implies, false_implies, not_true_eq_false, not_false_eq_true, and_true, true_and, and_self, isB0, isB1, bI_t0, bI_f0, i10_, i20_, i01_, i02_, i12_, i21_, f1, f2, f3, hv, g3, iN_step]
          rw [hv] at hQ
          exact hQ
        · rw [if_neg hv, if_neg hv] at hQ
          have g3 : Mt.1 101 0 t = M.1 101 0 t := g2 101 0 t (by rw [if_neg hv]; omega)
          simp only [forall_eq, true_implies, false_implies, not_true_eq_false, not_false_eq_true, and_true, true_and, and_self, isB0, isB1, bI_t0, bI_f0, i10_, i20_, i01_, i02_, i12_, i21_, f1, f2, f3, hv, g3, iN_step]
          exact hQ)
    ⟨fun k hk => absurd hk (by omega), k3_refl⟩
  exact ⟨M2, i1, i2, hV⟩
/-- an image is taken -/
theorem op144_t {X : Cx} {d : Nat} {M : Mem} {B : Nat} {v : Int32} (hv : ¬ v = 0) (h : St B M 0 0 0 0 (M.1 101 0)) : ∃ (M1 M2 : Mem), CC X (d + 4) 144 [vR 2 0, vI v] M (some (vI 1)) M1 ∧ CC X (d + 4) 272 [vR 100 0, vI v] M1 (some (vI 1)) M2 ∧ St B M2 8 2 2 1 (M2.1 102 0) ∧ M2.1 10 0 0 = 1 ∧ M2.1 100 0 5 = 1 ∧ K3 (fun c a j => (c = 10 ∧ a = 0 ∧ j = 0) ∨ (c = 100 ∧ a = 0 ∧ j = 5) ∨ (c = 102 ∧ a = 0) ∨ (a = 8 ∧ 20 ≤ c ∧ c < 32) ∨ (a = 2 ∧ 40 ≤ c ∧ c < 60) ∨ (a = 1 ∧ 71 ≤ c ∧ c < 95)) M M2 := by
  obtain ⟨lc, n5, n6, n7, L, C, S, t1, t2, t3, t4, t5, hl, hw, hp, ht⟩ := h
  obtain ⟨A1, a1, a2, a3, a4, a5⟩ := c53 (X := X) (d := d + 1) (M := st M 10 0 0 1) (a := 8) (b := 0) (by decide)
  obtain ⟨A2, b1, b2, b3, b4, b5⟩ := c2 (X := X) (d := d + 2) (M := A1) (a := 2) (b := 0) (by decide)
  obtain ⟨A3, d1, d2, d3, d4, d5⟩ := c11 (X := X) (d := d + 1) (M := A2) (a := 2) (b := 0) (by decide)
  have f0 : K3 (fun c a j => c = 10 ∧ a = 0 ∧ j = 0) M (st M 10 0 0 1) := k3_st ⟨rfl, rfl, rfl⟩
  have z3 : ∀ c j, c ≠ 10 → A3.1 c 0 j = M.1 c 0 j := fun c j hc => by rw [d5 c 0 j (by omega), b5 c 0 j (by omega), a5 c 0 j (by omega), f0 c 0 j (by omega)]
  obtain ⟨A4, e1, e2, e3, e4, e5, e6, e7, e8, e9⟩ := c71 (X := X) (d := d + 1) (M := A3) (a := 1) (b := 0) (n1 := t1) (n2 := t2) (n3 := t3) (n4 := t4) (n5 := t5) (by decide) ht.1.1 ht.2.1.1 ht.2.2.1.1 ht.2.2.2.1.1 ht.2.2.2.2.1.1 (by rw [z3 _ _ (by decide)]; exact ht.1.2.1) (by rw [z3 _ _ (by decide)]; exact ht.2.1.2.1) (by rw [z3 _ _ (by decide)]; exact ht.2.2.1.2.1) (by rw [z3 _ _ (by decide)]; exact ht.2.2.2.1.2.1) (by rw [z3 _ _ (by decide)]; exact ht.2.2.2.2.1.2.1)
  obtain ⟨A5, g1, g2, g3⟩ := c272_copy (X := X) (d := d + 3) (M := A4) (v := v)
  simp only [if_neg hv] at g1 g2
  have kA : K3 (fun c a j => (c = 10 ∧ a = 0 ∧ j = 0) ∨ (a = 8 ∧ 20 ≤ c ∧ c < 32) ∨ (a = 2 ∧ 40 ≤ c ∧ c < 60) ∨ (a = 1 ∧ 71 ≤ c ∧ c < 95)) M A4 := k3_trans (k3_trans (k3_trans (k3_trans (k3_sub f0 (fun c a j z => by omega)) (k3_sub a5 (fun c a j z => by omega))) (k3_sub b5 (fun c a j z => by omega))) (k3_sub d5 (fun c a j z => by omega))) (k3_sub e9 (fun c a j z => by omega))
  have kB : K3 (fun c a j => (c = 102 ∧ a = 0) ∨ (c = 100 ∧ a = 0 ∧ j = 5)) A4 (st A5 100 0 5 1) := k3_trans (k3_sub g2 (fun c a j z => Or.inl z)) (k3_st (Or.inr ⟨rfl, rfl, rfl⟩))
  have q5 : ∀ c a j, c < 100 → (st A5 100 0 5 1).1 c a j = A4.1 c a j := fun c a j hc => kB c a j (by omega)
  have wW : ∀ k, k < 2129 → (st A5 100 0 5 1).1 102 0 k = M.1 101 0 k := fun k hk => by rw [st_ne3 (by omega), g1 k hk, kA 101 0 k (by omega)]
  refine ⟨A4, st A5 100 0 5 1, e144 (w144_0 ?_), e272 (w272_0 ⟨fun _ => g3 _ (w272_15 ?_), fun z => absurd z hv⟩), ⟨lc, n5, n6, n7, L, C, S, t1, t2, t3, t4, t5, ?_, ?_, ?_, ?_⟩, ?_, st_at, k3_trans (k3_sub kA (fun c a j z => by omega)) (k3_sub kB (fun c a j z => by omega))⟩
  · simp only [forall_eq, true_implies, false_implies, not_true_eq_false, not_false_eq_true, and_true, true_and, and_self, isB0, isB1, bI_t0, bI_f0, i10_, i20_, i01_, i02_, i12_, i21_, hv]
    exact ⟨_, a1, _, b1, _, d1, _, e1, rfl⟩
  · simp only [forall_eq, true_implies, false_implies, not_true_eq_false, not_false_eq_true, and_true, true_and, and_self, isB0, isB1, bI_t0, bI_f0, i10_, i20_, i01_, i02_, i12_, i21_, hv, show ((2129 : Int32) ≤ iN 2129) = True from by decide]
  · refine hl.cp (Nat.le_refl _) ?_ ?_ (fun j hj => ?_) (fun k hk => wW k (by omega))
    · rw [TC_of (M := A1) (a := 8) (fun c h1 h2 => funext fun j => by rw [q5 c 8 j (by omega), e9 c 8 j (by omega), d5 c 8 j (by omega), b5 c 8 j (by omega)]), a2]
      exact TC_of (fun c h1 h2 => funext fun j => f0 c 0 j (by omega))
    · rw [q5 _ _ _ (by decide), e9 30 8 0 (by omega), d5 30 8 0 (by omega), b5 30 8 0 (by omega), a3, f0 30 0 0 (by omega)]
    · rw [q5 _ _ _ (by decide), e9 31 8 j (by omega), d5 31 8 j (by omega), b5 31 8 j (by omega), a4 j hj, f0 31 0 j (by omega)]
  · have zA1 : ∀ c j, 40 ≤ c → c < 60 → A1.1 c 0 j = M.1 c 0 j := fun c j h1 h2 => by rw [a5 c 0 j (by omega), f0 c 0 j (by omega)]
    refine hw.cp ?_ (fun c j h1 h2 hj => ?_) (fun j hj => ?_) (fun k hk => wW k (by omega))
    · rw [q5 _ _ _ (by decide), e9 40 2 0 (by omega), d5 40 2 0 (by omega), b2, zA1 _ _ (by decide) (by decide)]
    · rw [q5 _ _ _ (by omega), e9 c 2 j (by omega), d5 c 2 j (by omega), b3 c j h1 h2 hj, zA1 _ _ (by omega) (by omega)]
    · rw [q5 _ _ _ (by omega), e9 46 2 j (by omega), d5 46 2 j (by omega), b4 j hj, zA1 _ _ (by omega) (by omega)]
  · have zA2 : ∀ c j, 50 ≤ c → c < 60 → A2.1 c 0 j = M.1 c 0 j := fun c j h1 h2 => by rw [b5 c 0 j (by omega), a5 c 0 j (by omega), f0 c 0 j (by omega)]
    refine hp.cp (fun j hj => ?_) (fun c j h1 h2 hj => ?_) (fun j hj => ?_) (fun k hk => wW k (by omega))
    · rw [q5 _ _ _ (by omega), e9 50 2 j (by omega), d2 j hj, zA2 _ _ (by omega) (by omega)]
    · rw [q5 _ _ _ (by omega), e9 c 2 j (by omega), d3 c j h1 h2 hj, zA2 _ _ (by omega) (by omega)]
    · rw [q5 _ _ _ (by omega), e9 59 2 j (by omega), d4 j hj, zA2 _ _ (by omega) (by omega)]
  · refine ht.cp ⟨?_, fun j hj => ?_⟩ ⟨?_, fun j hj => ?_⟩ ⟨?_, fun j hj => ?_⟩ ⟨?_, fun j hj => ?_⟩ ⟨?_, fun j hj => ?_⟩ (fun j hj => ?_) (fun j hj => ?_) (fun k hk => wW k (by omega))
    · rw [q5 _ _ _ (by decide), e4.1, z3 _ _ (by decide)]
    · rw [q5 _ _ _ (by decide), q5 _ _ _ (by decide), (e4.2 j hj).1, (e4.2 j hj).2, z3 _ _ (by decide), z3 _ _ (by decide)]
      exact ⟨rfl, rfl⟩
    · rw [q5 _ _ _ (by decide), e5.1, z3 _ _ (by decide)]
    · rw [q5 _ _ _ (by decide), q5 _ _ _ (by decide), (e5.2 j hj).1, (e5.2 j hj).2, z3 _ _ (by decide), z3 _ _ (by decide)]
      exact ⟨rfl, rfl⟩
    · rw [q5 _ _ _ (by decide), e6.1, z3 _ _ (by decide)]
    · rw [q5 _ _ _ (by decide), q5 _ _ _ (by decide), (e6.2 j hj).1, (e6.2 j hj).2, z3 _ _ (by decide), z3 _ _ (by decide)]
      exact ⟨rfl, rfl⟩
    · rw [q5 _ _ _ (by decide), e7.1, z3 _ _ (by decide)]
    · rw [q5 _ _ _ (by decide), q5 _ _ _ (by decide), (e7.2 j hj).1, (e7.2 j hj).2, z3 _ _ (by decide), z3 _ _ (by decide)]
      exact ⟨rfl, rfl⟩
    · rw [q5 _ _ _ (by decide), e8.1, z3 _ _ (by decide)]
    · rw [q5 _ _ _ (by decide), q5 _ _ _ (by decide), (e8.2 j hj).1, (e8.2 j hj).2, z3 _ _ (by decide), z3 _ _ (by decide)]
      exact ⟨rfl, rfl⟩
    · rw [q5 _ _ _ (by decide), e2 j hj, z3 _ _ (by decide)]
    · rw [q5 _ _ _ (by decide), e3 j hj, z3 _ _ (by decide)]
  · rw [q5 _ _ _ (by decide), e9 10 0 0 (by omega), d5 10 0 0 (by omega), b5 10 0 0 (by omega), a5 10 0 0 (by omega), st_at]
/-- all goes on from the image -/
theorem op144_b {X : Cx} {d : Nat} {M : Mem} {B : Nat} (h1 : M.1 10 0 0 = 1) (h2 : M.1 100 0 5 = 1) (h : St B M 8 2 2 1 (M.1 102 0)) : ∃ (M1 M2 : Mem), CC X (d + 4) 144 [vR 2 0, vI 0] M (some (vI 1)) M1 ∧ CC X (d + 4) 272 [vR 100 0, vI 0] M1 (some (vI 1)) M2 ∧ St B M2 0 0 0 0 (M2.1 101 0) ∧ M2.1 8 0 0 = 0 ∧ M2.1 100 0 4 = 0 ∧ K3 (fun c a j => (c = 8 ∧ a = 0 ∧ j = 0) ∨ (c = 100 ∧ a = 0 ∧ (j = 4 ∨ j = 5)) ∨ (c = 101 ∧ a = 0) ∨ (a = 0 ∧ 20 ≤ c ∧ c < 32) ∨ (a = 0 ∧ 40 ≤ c ∧ c < 60) ∨ (a = 0 ∧ 71 ≤ c ∧ c < 95)) M M2 ∧ M2.1 100 0 5 = 1 := by
  obtain ⟨lc, n5, n6, n7, L, C, S, t1, t2, t3, t4, t5, hl, hw, hp, ht⟩ := h
  obtain ⟨A1, a1, a2, a3, a4, a5⟩ := c53 (X := X) (d := d + 1) (M := M) (a := 0) (b := 8) (by decide)
  obtain ⟨A2, b1, b2, b3, b4, b5⟩ := c2 (X := X) (d := d + 2) (M := A1) (a := 0) (b := 2) (by decide)
  obtain ⟨A3, d1, d2, d3, d4, d5⟩ := c11 (X := X) (d := d + 1) (M := A2) (a := 0) (b := 2) (by decide)
  have z3 : ∀ c a j, a ≠ 0 → A3.1 c a j = M.1 c a j := fun c a j hc => by rw [d5 c a j (by omega), b5 c a j (by omega), a5 c a j (by omega)]
  obtain ⟨A4, e1, e2, e3, e4, e5, e6, e7, e8, e9⟩ := c71 (X := X) (d := d + 1) (M := A3) (a := 0) (b := 1) (n1 := t1) (n2 := t2) (n3 := t3) (n4 := t4) (n5 := t5) (by decide) ht.1.1 ht.2.1.1 ht.2.2.1.1 ht.2.2.2.1.1 ht.2.2.2.2.1.1 (by rw [z3 _ _ _ (by decide)]; exact ht.1.2.1) (by rw [z3 _ _ _ (by decide)]; exact ht.2.1.2.1) (by rw [z3 _ _ _ (by decide)]; exact ht.2.2.1.2.1) (by rw [z3 _ _ _ (by decide)]; exact ht.2.2.2.1.2.1) (by rw [z3 _ _ _ (by decide)]; exact ht.2.2.2.2.1.2.1)
  have kA : K3 (fun c a j => (c = 8 ∧ a = 0 ∧ j = 0) ∨ (a = 0 ∧ 20 ≤ c ∧ c < 32) ∨ (a = 0 ∧ 40 ≤ c ∧ c < 60) ∨ (a = 0 ∧ 71 ≤ c ∧ c < 95)) M (st A4 8 0 0 0) := k3_trans (k3_trans (k3_trans (k3_trans (k3_sub a5 (fun c a j z => by omega)) (k3_sub b5 (fun c a j z => by omega))) (k3_sub d5 (fun c a j z => by omega))) (k3_sub e9 (fun c a j z => by omega))) (k3_st (Or.inl ⟨rfl, rfl, rfl⟩))
  obtain ⟨A5, g1, g2, g3⟩ := c272_copy (X := X) (d := d + 3) (M := st A4 8 0 0 0) (v := 0)
  simp only [if_true] at g1 g2
  have kB : K3 (fun c a j => (c = 101 ∧ a = 0) ∨ (c = 100 ∧ a = 0 ∧ (j = 4 ∨ j = 5))) (st A4 8 0 0 0) (st (st A5 100 0 4 0) 100 0 5 1) := k3_trans (k3_trans (k3_sub g2 (fun c a j z => Or.inl z)) (k3_st (Or.inr ⟨rfl, rfl, Or.inl rfl⟩))) (k3_st (Or.inr ⟨rfl, rfl, Or.inr rfl⟩))
  have q5 : ∀ c a j, 9 < c → c < 100 → (st (st A5 100 0 4 0) 100 0 5 1).1 c a j = A4.1 c a j := fun c a j h0 hc => by rw [kB c a j (by omega), st_ne3 (by omega)]
  have wW : ∀ k, k < 2129 → (st (st A5 100 0 4 0) 100 0 5 1).1 101 0 k = M.1 102 0 k := fun k hk => by rw [st_ne3 (by omega), st_ne3 (by omega), g1 k hk, kA 102 0 k (by omega)]
  refine ⟨st A4 8 0 0 0, st (st A5 100 0 4 0) 100 0 5 1, e144 (w144_0 ?_), e272 (w272_0 ?_), ⟨lc, n5, n6, n7, L, C, S, t1, t2, t3, t4, t5, ?_, ?_, ?_, ?_⟩, ?_, ?_, k3_trans (k3_sub kA (fun c a j z => by omega)) (k3_sub kB (fun c a j z => by omega)), st_at⟩
  · simp only [forall_eq, true_implies, false_implies, not_true_eq_false, not_false_eq_true, and_true, true_and, and_self, isB0, isB1, bI_t0, bI_f0, i10_, i20_, i01_, i02_, i12_, i21_, h1]
    exact ⟨_, a1, _, b1, _, d1, _, e1, _, c10, rfl⟩
  · simp only [forall_eq, true_implies, false_implies, not_true_eq_false, not_false_eq_true, and_true, true_and, and_self, isB0, isB1, bI_t0, bI_f0, i10_, i20_, i01_, i02_, i12_, i21_, show (st A4 8 0 0 0).1 100 0 5 = 1 by rw [kA 100 0 5 (by omega)]; exact h2]
    refine g3 _ (w272_15 ?_)
    simp only [forall_eq, true_implies, false_implies, not_true_eq_false, not_false_eq_true, and_true, true_and, and_self, isB0, isB1, bI_t0, bI_f0, i10_, i20_, i01_, i02_, i12_, i21_, show ((2129 : Int32) ≤ iN 2129) = True from by decide]
    exact ⟨_, c159, rfl⟩
  · refine hl.cp (Nat.le_refl _) ?_ ?_ (fun j hj => ?_) (fun k hk => wW k (by omega))
    · rw [TC_of (M := A1) (a := 0) (fun c h1 h2 => funext fun j => by rw [q5 c 0 j (by omega) (by omega), e9 c 0 j (by omega), d5 c 0 j (by omega), b5 c 0 j (by omega)]), a2]
    · rw [q5 _ _ _ (by decide) (by decide), e9 30 0 0 (by omega), d5 30 0 0 (by omega), b5 30 0 0 (by omega), a3]
    · rw [q5 _ _ _ (by decide) (by decide), e9 31 0 j (by omega), d5 31 0 j (by omega), b5 31 0 j (by omega), a4 j hj]
  · have zA1 : ∀ c a j, a ≠ 0 → A1.1 c a j = M.1 c a j := fun c a j h1 => by rw [a5 c a j (by omega)]
    refine hw.cp ?_ (fun c j h1 h2 hj => ?_) (fun j hj => ?_) (fun k hk => wW k (by omega))
    · rw [q5 _ _ _ (by decide) (by decide), e9 40 0 0 (by omega), d5 40 0 0 (by omega), b2, zA1 _ _ _ (by decide)]
    · rw [q5 _ _ _ (by omega) (by omega), e9 c 0 j (by omega), d5 c 0 j (by omega), b3 c j h1 h2 hj, zA1 _ _ _ (by decide)]
    · rw [q5 _ _ _ (by omega) (by omega), e9 46 0 j (by omega), d5 46 0 j (by omega), b4 j hj, zA1 _ _ _ (by decide)]
  · have zA2 : ∀ c a j, a ≠ 0 → A2.1 c a j = M.1 c a j := fun c a j h1 => by rw [b5 c a j (by omega), a5 c a j (by omega)]
    refine hp.cp (fun j hj => ?_) (fun c j h1 h2 hj => ?_) (fun j hj => ?_) (fun k hk => wW k (by omega))
    · rw [q5 _ _ _ (by omega) (by omega), e9 50 0 j (by omega), d2 j hj, zA2 _ _ _ (by decide)]
    · rw [q5 _ _ _ (by omega) (by omega), e9 c 0 j (by omega), d3 c j h1 h2 hj, zA2 _ _ _ (by decide)]
    · rw [q5 _ _ _ (by omega) (by omega), e9 59 0 j (by omega), d4 j hj, zA2 _ _ _ (by decide)]
  · refine ht.cp ⟨?_, fun j hj => ?_⟩ ⟨?_, fun j hj => ?_⟩ ⟨?_, fun j hj => ?_⟩ ⟨?_, fun j hj => ?_⟩ ⟨?_, fun j hj => ?_⟩ (fun j hj => ?_) (fun j hj => ?_) (fun k hk => wW k (by omega))
    · rw [q5 _ _ _ (by decide) (by decide), e4.1, z3 _ _ _ (by decide)]
    · rw [q5 _ _ _ (by decide) (by decide), q5 _ _ _ (by decide) (by decide), (e4.2 j hj).1, (e4.2 j hj).2, z3 _ _ _ (by decide), z3 _ _ _ (by decide)]
      exact ⟨rfl, rfl⟩
    · rw [q5 _ _ _ (by decide) (by decide), e5.1, z3 _ _ _ (by decide)]
    · rw [q5 _ _ _ (by decide) (by decide), q5 _ _ _ (by decide) (by decide), (e5.2 j hj).1, (e5.2 j hj).2, z3 _ _ _ (by decide), z3 _ _ _ (by decide)]
      exact ⟨rfl, rfl⟩
    · rw [q5 _ _ _ (by decide) (by decide), e6.1, z3 _ _ _ (by decide)]
    · rw [q5 _ _ _ (by decide) (by decide), q5 _ _ _ (by decide) (by decide), (e6.2 j hj).1, (e6.2 j hj).2, z3 _ _ _ (by decide), z3 _ _ _ (by decide)]
      exact ⟨rfl, rfl⟩
    · rw [q5 _ _ _ (by decide) (by decide), e7.1, z3 _ _ _ (by decide)]
    · rw [q5 _ _ _ (by decide) (by decide), q5 _ _ _ (by decide) (by decide), (e7.2 j hj).1, (e7.2 j hj).2, z3 _ _ _ (by decide), z3 _ _ _ (by decide)]
      exact ⟨rfl, rfl⟩
    · rw [q5 _ _ _ (by decide) (by decide), e8.1, z3 _ _ _ (by decide)]
    · rw [q5 _ _ _ (by decide) (by decide), q5 _ _ _ (by decide) (by decide), (e8.2 j hj).1, (e8.2 j hj).2, z3 _ _ _ (by decide), z3 _ _ _ (by decide)]
      exact ⟨rfl, rfl⟩
    · rw [q5 _ _ _ (by decide) (by decide), e2 j hj, z3 _ _ _ (by decide)]
    · rw [q5 _ _ _ (by decide) (by decide), e3 j hj, z3 _ _ _ (by decide)]
  · rw [kB 8 0 0 (by omega), st_at]
  · rw [st_ne3 (by omega), st_at]
theorem op144_n {X : Cx} {d : Nat} {M : Mem} (h1 : M.1 10 0 0 = 0) (h2 : M.1 100 0 5 = 0) : CC X (d + 4) 144 [vR 2 0, vI 0] M (some (vI 0)) M ∧ CC X (d + 4) 272 [vR 100 0, vI 0] M (some (vI 0)) M := by
  refine ⟨e144 (w144_0 ?_), e272 (w272_0 ?_)⟩
  · simp only [forall_eq, true_implies, false_implies, not_true_eq_false, not_false_eq_true, and_true, true_and, and_self, isB0, isB1, bI_t0, bI_f0, i10_, i20_, i01_, i02_, i12_, i21_, h1]
  · simp only [forall_eq, true_implies, false_implies, not_true_eq_false, not_false_eq_true, and_true, true_and, and_self, isB0, isB1, bI_t0, bI_f0, i10_, i20_, i01_, i02_, i12_, i21_, h2]
