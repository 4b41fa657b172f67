/-! the reference asks -/
abbrev laidM (M : Mem) (g : Nat → Int32) : Mem := st (st (st (st (st (st (st (st (st (st M 110 0 1 (g 1)) 110 0 2 (g 2)) 110 0 3 (g 3)) 110 0 4 (g 4)) 110 0 5 (g 5)) 110 0 6 (g 6)) 110 0 7 (g 7)) 110 0 8 (g 8)) 110 0 9 (g 9)) 110 0 10 (g 10)
theorem laidM_k {M : Mem} {g : Nat → Int32} : K3 (fun c _ _ => c = 110) M (laidM M g) :=
  k3_trans (k3_trans (k3_trans (k3_trans (k3_trans (k3_trans (k3_trans (k3_trans (k3_trans (k3_st rfl) (k3_st rfl)) (k3_st rfl)) (k3_st rfl)) (k3_st rfl)) (k3_st rfl)) (k3_st rfl)) (k3_st rfl)) (k3_st rfl)) (k3_st rfl)
theorem laidM_f {M : Mem} {g : Nat → Int32} {s : Nat} (h1 : 1 ≤ s) (h2 : s ≤ 10) : (laidM M g).1 110 0 s = g s := by
  rcases ten h1 h2 with rfl | rfl | rfl | rfl | rfl | rfl | rfl | rfl | rfl | rfl <;> simp [laidM, st_rd]
theorem laidM_w {M : Mem} {g : Nat → Int32} : (laidM M g).1 101 0 = M.1 101 0 := k3_col laidM_k (fun _ => by simp)
theorem TM110 {M : Mem} {j : Nat} {x : Int32} : TM (st M 110 0 j x) = TM M := by
  show TW ((st M 110 0 j x).1 101 0) = _
  rw [st_ne (fun z => absurd z.1 (by decide))]
theorem c207 {X : Cx} {d : Nat} {M : Mem} {p : Nat} {pf v : Int32} {f e : Option Nat} (hp : p < 12) (hf : match f with | some f => pf = iN f ∧ f < 10 | none => pf = -1) (hv : v = fct (TM M) p f e 8) : CC X (d + 2) 207 [vR 100 0, vI (iN p), vI pf, vI v] M none (laidM M (fct (TM M) p f e)) := by
  have e263 : 263 + iN p = iN (263 + p) := by simp only [iN_lit, iN_add]
  have e275 : 275 + iN p = iN (275 + p) := by simp only [iN_lit, iN_add]
  have e17 : 17 + iN p = iN (17 + p) := by simp only [iN_lit, iN_add]
  have b1 : inb (iN (263 + p)) 2129 := inb_of (by omega) (by decide)
  have b2 : inb (iN (275 + p)) 2129 := inb_of (by omega) (by decide)
  have b3 : inb (iN (17 + p)) 2129 := inb_of (by omega) (by decide)
  have y1 : ix (iN (263 + p)) = 263 + p := ix_of (by omega)
  have y2 : ix (iN (275 + p)) = 275 + p := ix_of (by omega)
  have y3 : ix (iN (17 + p)) = 17 + p := ix_of (by omega)
  have z0 : inb 0 2129 := inb_l (by decide) (by decide)
  have z1 : inb 1 2129 := inb_l (by decide) (by decide)
  have z3 : inb 3 2129 := inb_l (by decide) (by decide)
  have i1 : inb 1 11 := inb_l (by decide) (by decide)
  have i2 : inb 2 11 := inb_l (by decide) (by decide)
  have i3 : inb 3 11 := inb_l (by decide) (by decide)
  have i4 : inb 4 11 := inb_l (by decide) (by decide)
  have i5 : inb 5 11 := inb_l (by decide) (by decide)
  have i6 : inb 6 11 := inb_l (by decide) (by decide)
  have i7 : inb 7 11 := inb_l (by decide) (by decide)
  have i8 : inb 8 11 := inb_l (by decide) (by decide)
  have i9 : inb 9 11 := inb_l (by decide) (by decide)
  have i10 : inb 10 11 := inb_l (by decide) (by decide)
  have x0 : ix 0 = 0 := ix_l (by decide)
  have x1 : ix 1 = 1 := ix_l (by decide)
  have x2 : ix 2 = 2 := ix_l (by decide)
  have x3 : ix 3 = 3 := ix_l (by decide)
  have x4 : ix 4 = 4 := ix_l (by decide)
  have x5 : ix 5 = 5 := ix_l (by decide)
  have x6 : ix 6 = 6 := ix_l (by decide)
  have x7 : ix 7 = 7 := ix_l (by decide)
  have x8 : ix 8 = 8 := ix_l (by decide)
  have x9 : ix 9 = 9 := ix_l (by decide)
  have x10 : ix 10 = 10 := ix_l (by decide)
  have t26 : TM M 26 p = M.1 101 0 (263 + p) := TW_rd (by simpa [okC] using hp)
  have t27 : TM M 27 p = M.1 101 0 (275 + p) := TW_rd (by simpa [okC] using hp)
  have t28 : TM M 28 p = M.1 101 0 (17 + p) := TW_rd (by simpa [okC] using hp)
  have t201 : TM M 20 1 = M.1 101 0 0 := TW_rd (by decide)
  have t202 : TM M 20 2 = M.1 101 0 1 := TW_rd (by decide)
  have t204 : TM M 20 4 = M.1 101 0 3 := TW_rd (by decide)
  refine e207 (w207_0 ?_)
  subst hv
  cases f with
  | none =>
    have hf : pf = -1 := hf
    subst hf
    simp only [forall_eq, true_implies, false_implies, not_true_eq_false, not_false_eq_true, and_true, true_and, and_self, isB0, isB1, bI_t0, bI_f0, i10_, i20_, i01_, i02_, i12_, i21_, e263, e275, e17, b1, b2, b3, y1, y2, y3, z0, z1, z3, i1, i2, i3, i4, i5, i6, i7, i8, i9, i10, x0, x1, x2, x3, x4, x5, x6, x7, x8, x9, x10, st_rd, TM110, Nat.reduceEqDiff, false_and, if_false]
    refine ⟨_, _, c206 hp, ?_⟩
    simp only [forall_eq, true_implies, false_implies, not_true_eq_false, not_false_eq_true, and_true, true_and, and_self, isB0, isB1, bI_t0, bI_f0, i10_, i20_, i01_, i02_, i12_, i21_, e263, e275, e17, b1, b2, b3, y1, y2, y3, z0, z1, z3, i1, i2, i3, i4, i5, i6, i7, i8, i9, i10, x0, x1, x2, x3, x4, x5, x6, x7, x8, x9, x10, st_rd, TM110, Nat.reduceEqDiff, false_and, if_false]
    simp only [laidM, fct, t26, t27, t28, t201, t202, t204]
  | some f =>
    obtain ⟨rfl, hf⟩ := hf
    have hne : (iN f = -1) = False := eq_false (fun z => by
      have := iN_nn (n := f) (by omega)
      rw [z] at this
      exact absurd this (by decide))
    have e241 : 241 + iN f = iN (241 + f) := by simp only [iN_lit, iN_add]
    have e7 : 7 + iN f = iN (7 + f) := by simp only [iN_lit, iN_add]
    have b4 : inb (iN (241 + f)) 2129 := inb_of (by omega) (by decide)
    have b5 : inb (iN (7 + f)) 2129 := inb_of (by omega) (by decide)
    have y4 : ix (iN (241 + f)) = 241 + f := ix_of (by omega)
    have y5 : ix (iN (7 + f)) = 7 + f := ix_of (by omega)
    have t21 : TM M 21 f = M.1 101 0 (241 + f) := TW_rd (by simpa [okC] using hf)
    have t22 : TM M 22 f = M.1 101 0 (7 + f) := TW_rd (by simpa [okC] using hf)
    simp only [forall_eq, true_implies, false_implies, not_true_eq_false, not_false_eq_true, and_true, true_and, and_self, isB0, isB1, bI_t0, bI_f0, i10_, i20_, i01_, i02_, i12_, i21_, hne, e241, e7, b4, b5, y4, y5, e263, e275, e17, b1, b2, b3, y1, y2, y3, z0, z1, z3, i1, i2, i3, i4, i5, i6, i7, i8, i9, i10, x0, x1, x2, x3, x4, x5, x6, x7, x8, x9, x10, st_rd, TM110, Nat.reduceEqDiff, false_and, if_false]
    refine ⟨_, _, c206 hp, ?_⟩
    simp only [forall_eq, true_implies, false_implies, not_true_eq_false, not_false_eq_true, and_true, true_and, and_self, isB0, isB1, bI_t0, bI_f0, i10_, i20_, i01_, i02_, i12_, i21_, e263, e275, e17, b1, b2, b3, y1, y2, y3, z0, z1, z3, i1, i2, i3, i4, i5, i6, i7, i8, i9, i10, x0, x1, x2, x3, x4, x5, x6, x7, x8, x9, x10, st_rd, TM110, Nat.reduceEqDiff, false_and, if_false]
    simp only [laidM, fct, t21, t22, t26, t27, t28, t201, t202, t204]
theorem c205_law {X : Cx} {d : Nat} {M : Mem} {word p : Nat} {L : Lw} {f e : Option Nat} {wo mo : Int32} (hw : word ≤ 2) (hL : LawM (M.1 101 0) L) (hT : LawT L) (hwo : wo = dfl word (TM M 26 p + TM M 20 1)) (hmo : mo = if word = 0 then 99 else 1000) : ∃ (M' : Mem), CC X (d + 4) 205 [vR 100 0, vI (iN (20 + word)), vI wo, vI mo] (laidM M (fct (TM M) p f e)) (some (vI (askS L (TM M) word p f e))) M' ∧ K3 (fun c _ _ => c = 109 ∨ c = 110) M M' := by
  have k := laidM_k (M := M) (g := fct (TM M) p f e)
  obtain ⟨M', c, k2⟩ := c205 (X := X) (d := d) (M := laidM M (fct (TM M) p f e)) (wo := wo) (mo := mo) hw (by rw [laidM_w]; exact hL) hT
  rw [lawV_congr (fb := fct (TM M) p f e) (fun s h1 h2 => laidM_f h1 h2), hwo, hmo] at c
  rw [hwo, hmo]
  exact ⟨M', c, k3_trans (k3_sub k (fun c b j z => Or.inr z)) (k3_sub k2 (fun c b j z => Or.inl z))⟩
theorem c208 {X : Cx} {d : Nat} {M : Mem} {p f : Nat} {L : Lw} (hL : LawM (M.1 101 0) L) (hT : LawT L) (hp : p < 12) (hf : f < 10) : ∃ (M' : Mem), CC X (d + 5) 208 [vR 100 0, vI (iN p), vI (iN f)] M (some (vI (askS L (TM M) 0 p (some f) none))) M' ∧ K3 (fun c _ _ => c = 109 ∨ c = 110) M M' := by
  obtain ⟨M', c, k⟩ := c205_law (X := X) (d := d) (word := 0) (p := p) (f := some f) (e := none) (by decide) hL hT rfl rfl
  refine ⟨M', e208 (w208_0 ⟨_, c207 (f := some f) (e := none) hp ⟨rfl, hf⟩ rfl, ?_⟩), k⟩
  rw [laidM_w]
  have e263 : 263 + iN p = iN (263 + p) := by simp only [iN_lit, iN_add]
  have t26 : TM M 26 p = M.1 101 0 (263 + p) := TW_rd (by simpa [okC] using hp)
  have t201 : TM M 20 1 = M.1 101 0 0 := TW_rd (by decide)
  rw [t26, t201] at c
  simp only [forall_eq, true_implies, false_implies, not_true_eq_false, not_false_eq_true, and_true, true_and, and_self, isB0, isB1, bI_t0, bI_f0, i10_, i20_, i01_, i02_, i12_, i21_, e263, show inb (iN (263 + p)) 2129 from inb_of (by omega) (by decide), ix_of (show 263 + p < 2147483648 by omega), show inb 0 2129 from inb_l (by decide) (by decide), show ix 0 = 0 from ix_l (by decide)]
  exact ⟨_, _, c, rfl, rfl⟩
theorem c209 {X : Cx} {d : Nat} {M : Mem} {p f e : Nat} {L : Lw} (hL : LawM (M.1 101 0) L) (hT : LawT L) (hp : p < 12) (hf : f < 10) (he : e < 8) : ∃ (M' : Mem), CC X (d + 5) 209 [vR 100 0, vI (iN p), vI (iN f), vI (iN e)] M (some (vI (askS L (TM M) 1 p (some f) (some e)))) M' ∧ K3 (fun c _ _ => c = 109 ∨ c = 110) M M' := by
  obtain ⟨M', c, k⟩ := c205_law (X := X) (d := d) (word := 1) (p := p) (f := some f) (e := some e) (by decide) hL hT rfl rfl
  refine ⟨M', e209 (w209_0 ⟨_, _, c158 he, ?_⟩), k⟩
  rcases TM23 (w := M.1 101 0) (e := e) with h | h
  · simp only [forall_eq, true_implies, false_implies, not_true_eq_false, not_false_eq_true, and_true, true_and, and_self, isB0, isB1, bI_t0, bI_f0, i10_, i20_, i01_, i02_, i12_, i21_, h, if_false]
    exact ⟨_, c207 (f := some f) (e := some e) hp ⟨rfl, hf⟩ h.symm, _, _, c, rfl, rfl⟩
  · simp only [forall_eq, true_implies, false_implies, not_true_eq_false, not_false_eq_true, and_true, true_and, and_self, isB0, isB1, bI_t0, bI_f0, i10_, i20_, i01_, i02_, i12_, i21_, h, if_true]
    exact ⟨_, c207 (f := some f) (e := some e) hp ⟨rfl, hf⟩ h.symm, _, _, c, rfl, rfl⟩
theorem c210 {X : Cx} {d : Nat} {M : Mem} {p e : Nat} {L : Lw} (hL : LawM (M.1 101 0) L) (hT : LawT L) (hp : p < 12) (he : e < 8) : ∃ (M' : Mem), CC X (d + 5) 210 [vR 100 0, vI (iN p), vI (iN e)] M (some (vI (askS L (TM M) 2 p none (some e)))) M' ∧ K3 (fun c _ _ => c = 109 ∨ c = 110) M M' := by
  obtain ⟨M', c, k⟩ := c205_law (X := X) (d := d) (word := 2) (p := p) (f := none) (e := some e) (by decide) hL hT rfl rfl
  refine ⟨M', e210 (w210_0 ⟨_, _, c158 he, ?_⟩), k⟩
  rcases TM23 (w := M.1 101 0) (e := e) with h | h
  · simp only [forall_eq, true_implies, false_implies, not_true_eq_false, not_false_eq_true, and_true, true_and, and_self, isB0, isB1, bI_t0, bI_f0, i10_, i20_, i01_, i02_, i12_, i21_, h, if_false]
    exact ⟨_, c207 (f := none) (e := some e) hp rfl h.symm, _, _, c, rfl, rfl⟩
  · simp only [forall_eq, true_implies, false_implies, not_true_eq_false, not_false_eq_true, and_true, true_and, and_self, isB0, isB1, bI_t0, bI_f0, i10_, i20_, i01_, i02_, i12_, i21_, h, if_true]
    exact ⟨_, c207 (f := none) (e := some e) hp rfl h.symm, _, _, c, rfl, rfl⟩
