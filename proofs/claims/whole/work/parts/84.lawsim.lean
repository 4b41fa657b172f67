/-! one line of law, both -/
theorem RL.k {M M2 : Mem} {b : Nat → Nat} {n m i : Nat} {cs : Cds} {P : Nat → Nat → Nat → Prop} (h : RL M b n m i cs) (kk : K3 P M M2) (h1 : ∀ j, (j = 12 ∨ j = 14 ∨ j = 16 ∨ j = 17 ∨ j = 18 ∨ j = 19 ∨ j = 20) → ¬ P 100 0 j) (h2 : ∀ j, ¬ P 108 0 j) (h3 : ∀ j, ¬ P 106 0 j) : RL M2 b n m i cs := ⟨h.1.k kk (fun j hj => h1 j (by omega)) h2, h.2.1, h.2.2.1.k kk (h1 14 (by omega)) h3, h.2.2.2⟩
abbrev RlP (q : Nat) : Nat → Nat → Nat → Prop := fun c a j => a = 0 ∧ ((c = 100 ∧ (j = 14 ∨ j = 17 ∨ j = 18 ∨ j = 19 ∨ j = 20 ∨ j = 21 ∨ j = 22 ∨ j = 24)) ∨ c = 106 ∨ (c = 105 ∧ 4 * q ≤ j ∧ j < 4 * q + 4))
theorem Rl105 {q j : Nat} (h : 4 * q ≤ j ∧ j < 4 * q + 4) : RlP q 105 0 j := ⟨rfl, Or.inr (Or.inr ⟨rfl, h⟩)⟩
theorem Rl24 {q : Nat} : RlP q 100 0 24 := ⟨rfl, Or.inl ⟨rfl, by decide⟩⟩
theorem Rc_l {q : Nat} : ∀ c a j, RcP c a j → RlP q c a j := fun c a j h => by simp only [RcP] at h; simp only [RlP]; omega
theorem Rf_l {q : Nat} : ∀ c a j, RfP c a j → RlP q c a j := fun c a j h => Rc_l c a j (Rf_c c a j h)
theorem Nx_l {q : Nat} : ∀ c a j, NxP c a j → RlP q c a j := fun c a j h => Rc_l c a j (Nx_c c a j h)
def LnRf (X : Cx) (b : Nat → Nat) (n m i : Nat) (r : Rl) : Prop := ∀ (e q : Nat) (M : Mem) (cs : Cds), q < 16 → RL M b n m i cs → M.1 100 0 13 = iN q → cs.length ≤ i → ∃ M', CC X (e + 39) 186 [vR 100 0] M (some (vI (rlB r))) M' ∧ K3 (RlP q) M M' ∧ rlC (fun j cv cc => RL M' b n m j (cs ++ cv ++ cc) ∧ M'.1 105 0 (4 * q + 3) = M.1 100 0 18 ∧ M'.1 105 0 (4 * q) = iN cs.length ∧ M'.1 105 0 (4 * q + 1) = iN (cs ++ cv).length ∧ M'.1 105 0 (4 * q + 2) = iN (cs ++ cv ++ cc).length) (fun e p => Bad M' b n e p) r
def GdL (m i : Nat) (r : Rl) : Prop := rlC (fun j cv cc => i < j ∧ j ≤ m ∧ cv.length + cc.length ≤ j - i ∧ Ty cv [] [false] ∧ (cc = [] ∨ Ty cc [] [true])) (fun e _ => 1 ≤ e ∧ e ≤ 3) r
theorem kw_in {M : Mem} {b : Nat → Nat} {n m i : Nat} (hT : Tok b n m) (h : M.1 100 0 18 = iN (rt 0 (tk b n i))) : inR (M.1 100 0 18) 20 22 = decide (10010 ≤ tk b n i ∧ tk b n i ≤ 10012) := by
  have h2 := rt_b (k := 0) (tk_b hT i)
  rw [h, show inR (iN (rt 0 (tk b n i))) 20 22 = (decide (20 ≤ rt 0 (tk b n i)) && decide (rt 0 (tk b n i) ≤ 22)) from inR_d (lo := 20) (hi := 22) (by omega) (by decide) (by decide), ← Bool.decide_and]
  refine decide_eq_decide.mpr ⟨fun z => ?_, fun z => ?_⟩
  · have h3 := rt_l (rt 0 (tk b n i)) rfl (by omega) (by omega)
    rw [rt_w h3.1 h3.2] at z
    have z : 20 ≤ rt0 (tk b n i) ∧ rt0 (tk b n i) ≤ 22 := z
    have h4 := rt0_c (tk b n i)
    omega
  · rw [rt_w (by omega) (by omega)]
    show 20 ≤ rt0 (tk b n i) ∧ rt0 (tk b n i) ≤ 22
    have h4 := rt0_c (tk b n i)
    omega
/-- the reference's line, up to its value -/
theorem ref_line {X : Cx} {b : Nat → Nat} {n m i : Nat} (hX : StrOk X) (hT : Tok b n m) (hi : i < m) (hk : 10010 ≤ tk b n i ∧ tk b n i ≤ 10012) {e q : Nat} {M : Mem} {cs : Cds} (hq : q < 16) (hR : RL M b n m i cs) (h13 : M.1 100 0 13 = iN q) : ∃ M5, RL M5 b n m (i + 1) cs ∧ M5.1 105 0 (4 * q + 3) = M.1 100 0 18 ∧ M5.1 105 0 (4 * q) = iN cs.length ∧ M5.1 100 0 24 = iN 0 ∧ K3 (RlP q) M M5 ∧ ∀ (r : Int32) (M' M6 : Mem) (r2 : Int32), CC X (e + 38) 180 [vR 100 0] M5 (some (vI r2)) M6 → (¬ r2 = 0 → ((4 * (M6.1 100 0 13)) + 1 = iN (4 * q + 1) ∧ (∀ M7, M7 = st M6 105 0 (4 * q + 1) (M6.1 100 0 14) → (4 * (M7.1 100 0 13)) + 2 = iN (4 * q + 2) ∧ (¬ (M7.1 100 0 18) = 3 → ∀ M8, M8 = st M7 105 0 (4 * q + 2) (M7.1 100 0 14) → CC X (e + 38) 177 [vR 100 0, vI 159] M8 (some (vI r)) M' ∧ isB r) ∧ ((M7.1 100 0 18) = 3 → ∃ (M10 : Mem), CC X (e + 38) 175 [vR 100 0] M7 none M10 ∧ ∃ (r4 : Int32) (M11 : Mem), CC X (e + 38) 183 [vR 100 0] M10 (some (vI r4)) M11 ∧ (¬ r4 = 0 → (4 * (M11.1 100 0 13)) + 2 = iN (4 * q + 2) ∧ ∀ M12, M12 = st M11 105 0 (4 * q + 2) (M11.1 100 0 14) → CC X (e + 38) 177 [vR 100 0, vI 159] M12 (some (vI r)) M' ∧ isB r) ∧ (r4 = 0 → r = 0 ∧ M11 = M'))))) → (r2 = 0 → r = 0 ∧ M6 = M') → CC X (e + 39) 186 [vR 100 0] M (some (vI r)) M' := by
  have e4 : 4 * iN q = iN (4 * q) := by simp only [iN_lit, iN_mul]
  have e43 : iN (4 * q) + 3 = iN (4 * q + 3) := by simp only [iN_lit, iN_add]
  have k3 : K3 (RlP q) M (st (st M 100 0 24 0) 105 0 (4 * q + 3) (M.1 100 0 18)) := k3_trans (k3_st Rl24) (k3_st (Rl105 (by omega)))
  have hR3 : RL (st (st M 100 0 24 0) 105 0 (4 * q + 3) (M.1 100 0 18)) b n m i cs := hR.k24.k (P := fun c a j => c = 105) (k3_st rfl) (fun j hj => by omega) (fun j => by omega) (fun j => by omega)
  obtain ⟨M4, p1, p2, p3⟩ := hR3.next (X := X) (d := e + 30) hX hT hi
  have h5 : RL (st M4 105 0 (4 * q) (iN cs.length)) b n m (i + 1) cs := p2.k (P := fun c a j => c = 105) (k3_st rfl) (fun j hj => by omega) (fun j => by omega) (fun j => by omega)
  have v13 : M4.1 100 0 13 = iN q := by rw [p3 100 0 13 (by simp [NxP]), st_ne3 (fun z => absurd z.1 (by decide)), st_ne3 (by omega)]; exact h13
  refine ⟨_, h5, ?_, st_at, ?_, k3_trans k3 (k3_trans (k3_sub p3 Nx_l) (k3_st (Rl105 (by omega)))), fun r M' M6 r2 h1 h2 h3 => e186 (w186_0 ?_)⟩
  · rw [st_ne3 (by omega), p3 105 0 _ (by simp [NxP]), st_at]
  · rw [st_ne3 (fun z => absurd z.1 (by decide)), p3 100 0 24 (by simp [NxP]), st_ne3 (fun z => absurd z.1 (by decide)), st_at]
    rfl
  · have cin := c151 (X := X) (d := e + 37) (M := M) (v := M.1 100 0 18) (lo := 20) (hi := 22)
    rw [kw_in hT hR.1.2.2.2.2.1, decide_eq_true hk] at cin
    have h136 : ¬ iN q = 16 := by rw [show (iN q = 16) = False from neq_ (b := 16) (by omega) (by decide) (by omega)]; exact id
    refine ⟨_, _, cin, fun _ => ⟨fun _ M2 hM2 => ?_, fun z => absurd z (by rw [h13]; exact h136)⟩, fun z => absurd z n10⟩
    subst hM2
    rw [st_ne3 (by omega), h13, e4, e43, ix_of (by omega)]
    refine ⟨inb_of (by omega) (by decide), fun M3 hM3 => ?_⟩
    rw [st_ne3 (by omega)] at hM3
    subst hM3
    refine ⟨_, p1, ?_⟩
    rw [v13, e4, ix_of (by omega), p2.2.2.1.1]
    refine ⟨inb_of (by omega) (by decide), fun M5 hM5 => ?_⟩
    subst hM5
    refine ⟨_, _, h1, fun z => ?_, fun z => ?_⟩
    · obtain ⟨a1, a2⟩ := h2 z
      rw [a1, ix_of (by omega)]
      refine ⟨inb_of (by omega) (by decide), fun M7 hM7 => ?_⟩
      obtain ⟨b1, b2, b3⟩ := a2 M7 hM7
      rw [b1, ix_of (by omega)]
      refine ⟨fun y => ⟨inb_of (by omega) (by decide), fun M8 hM8 => ⟨_, _, (b2 y M8 hM8).1, (b2 y M8 hM8).2, rfl, rfl⟩⟩, fun y => ?_⟩
      obtain ⟨M10, c1, r4, M11, c2, c3, c4⟩ := b3 y
      refine ⟨_, c1, _, _, c2, fun u => ?_, fun u => ?_⟩
      · obtain ⟨d1, d2⟩ := c3 u
        rw [d1, ix_of (by omega)]
        exact ⟨inb_of (by omega) (by decide), fun M12 hM12 => ⟨_, _, (d2 M12 hM12).1, (d2 M12 hM12).2, rfl, rfl⟩⟩
      · obtain ⟨d1, d2⟩ := c4 u
        subst d1
        exact ⟨isB0, rfl, d2⟩
    · obtain ⟨d1, d2⟩ := h3 z
      subst d1
      exact ⟨isB0, rfl, d2⟩
theorem e41_ {q : Nat} : 4 * iN q + 1 = iN (4 * q + 1) := by simp only [iN_lit, iN_mul, iN_add]
theorem e42_ {q : Nat} : 4 * iN q + 2 = iN (4 * q + 2) := by simp only [iN_lit, iN_mul, iN_add]
theorem k_44 {M : Mem} {q : Nat} {x : Int32} : K3 (fun c a j => c = 44 ∧ a = 1 ∧ j = q) M (st M 44 1 q x) := k3_st ⟨rfl, rfl, rfl⟩
theorem CL.c44 {M : Mem} {b : Nat → Nat} {n m i q : Nat} {cs : Cds} {x : Int32} (h : CL M b n m i cs) : CL (st M 44 1 q x) b n m i cs := by
  obtain ⟨w, hw, h11⟩ := h.1.2.2.2.2.2.2.1
  exact h.k (P := fun c a j => c = 44 ∧ a = 1 ∧ j = q) k_44 (by omega) (by omega) (by omega) (by omega) (fun _ => by omega) (fun _ => by omega) (by omega) (fun _ => by omega) hw (by rw [st_ne3 (fun z => absurd z.1 (by decide))]; exact h11)
theorem DD.c44 {M : Mem} {b : Nat → Nat} {n m e p q : Nat} {x : Int32} (h : DD M b n m e p) : DD (st M 44 1 q x) b n m e p := by
  obtain ⟨w, hw, h11⟩ := h.2.2.2.2.2.2.2
  exact h.k (P := fun c a j => c = 44 ∧ a = 1 ∧ j = q) k_44 (by omega) (by omega) (by omega) (by omega) (fun _ => by omega) (fun _ => by omega) (by omega) hw (by rw [st_ne3 (fun z => absurd z.1 (by decide))]; exact h11)
theorem l44 {q : Nat} : ∀ c a j, (c = 44 ∧ a = 1 ∧ j = q) → LnP q c a j := fun c a j h => by simp only [LnP]; omega
theorem l43 {q : Nat} : ∀ c a j, (a = 1 ∧ (42 ≤ c ∧ c < 44 ∧ j = q)) → LnP q c a j := fun c a j h => by simp only [LnP]; omega
theorem line_sim {X : Cx} {b : Nat → Nat} {n m : Nat} (hX : StrOk X) (hT : Tok b n m) (i : Nat) (hi : i < m) (hk : 10010 ≤ tk b n i ∧ tk b n i ≤ 10012) : ∃ r : Rl, LnCl X b n m (i + 1) r ∧ LnRf X b n m i r ∧ GdL m i r := by
  have hm := hT.1
  have hn := hT.2.1
  obtain ⟨r1, u1, u2, u3⟩ := sum_sim hX hT (i + 1) (by omega)
  match r1, u1, u2, u3 with
  | .inr (e, p), u1, u2, u3 =>
    refine ⟨.inr (e, p), fun d q x M cs hq hC => ?_, fun f q M cs hq hR h13 hl => ?_, u3⟩
    · obtain ⟨M3, a1, a2, a3, a4, a5⟩ := LnCl_go (X := X) (d := d) (x := x) hq hC
      obtain ⟨M4, p1, p2, p3⟩ := u1 (d + 1) M3 cs a1
      obtain ⟨M', f1, f2, f3⟩ := LnE_d (X := X) (d := d) hq (DD.c44 (q := q) (x := M4.1 40 1 1) p3)
      exact ⟨M', k3_trans (k3_sub a4 l43) (k3_trans (k3_sub p2 Sm_l) (k3_trans (k3_sub k_44 l44) f2)), f1, fun Q hQ => a5 M4 Q p1 ⟨_, _, c34_d (DD.c44 p3), fun _ => f3 Q hQ, fun z => absurd rfl z⟩⟩
    · obtain ⟨M5, a1, a2, a3, a24, a4, a5⟩ := ref_line (e := f) hX hT hi hk hq hR h13
      obtain ⟨M6, p1, p2, p3⟩ := u2 (f + 27) M5 cs a1 (by omega)
      exact ⟨M6, a5 0 M6 M6 0 p1 (fun z => absurd rfl z) (fun _ => ⟨rfl, rfl⟩), k3_trans a4 (k3_sub p2 Rf_l), p3⟩
  | .inl (j, cv), u1, u2, u3 =>
    obtain ⟨g1, g2, g3, g4, g5⟩ := u3
    have u1 : ∀ d M cs, CL M b n m (i + 1) cs → ∃ M', CC X (d + 4) 42 [vR 3 0] M none M' ∧ K3 SmP M M' ∧ CL M' b n m j (cs ++ cv) := u1
    have u2 : ∀ d M cs, RL M b n m (i + 1) cs → cs.length ≤ i + 1 → ∃ M', CC X (d + 11) 180 [vR 100 0] M (some (vI 1)) M' ∧ K3 RfP M M' ∧ RL M' b n m j (cs ++ cv) := u2
    have hTy : Ty cv [] [false] := g5 [] (by decide)
    -- the reference after the value
    have rfv : ∀ {f q : Nat} {M : Mem} {cs : Cds}, q < 16 → RL M b n m i cs → M.1 100 0 13 = iN q → cs.length ≤ i → ∃ M6 M7, RL M7 b n m j (cs ++ cv) ∧ M7.1 100 0 13 = iN q ∧ M7.1 100 0 24 = iN 0 ∧ M7.1 105 0 (4 * q + 3) = M.1 100 0 18 ∧ M7.1 105 0 (4 * q) = iN cs.length ∧ M7.1 105 0 (4 * q + 1) = iN (cs ++ cv).length ∧ K3 (RlP q) M M7 ∧ M7 = st M6 105 0 (4 * q + 1) (M6.1 100 0 14) ∧ ∀ (r : Int32) (M' : Mem), ((¬ (M7.1 100 0 18) = 3 → CC X (f + 38) 177 [vR 100 0, vI 159] (st M7 105 0 (4 * q + 2) (M7.1 100 0 14)) (some (vI r)) M' ∧ isB r) ∧ ((M7.1 100 0 18) = 3 → ∃ (M10 : Mem), CC X (f + 38) 175 [vR 100 0] M7 none M10 ∧ ∃ (r4 : Int32) (M11 : Mem), CC X (f + 38) 183 [vR 100 0] M10 (some (vI r4)) M11 ∧ (¬ r4 = 0 → (4 * (M11.1 100 0 13)) + 2 = iN (4 * q + 2) ∧ ∀ M12, M12 = st M11 105 0 (4 * q + 2) (M11.1 100 0 14) → CC X (f + 38) 177 [vR 100 0, vI 159] M12 (some (vI r)) M' ∧ isB r) ∧ (r4 = 0 → r = 0 ∧ M11 = M'))) → CC X (f + 39) 186 [vR 100 0] M (some (vI r)) M' := by
      intro f q M cs hq hR h13 hl
      obtain ⟨M5, a1, a2, a3, a24, a4, a5⟩ := ref_line (e := f) hX hT hi hk hq hR h13
      obtain ⟨M6, p1, p2, p3⟩ := u2 (f + 27) M5 cs a1 (by omega)
      have v13 : M6.1 100 0 13 = iN q := by rw [p2 100 0 13 (by simp [RfP]), a4 100 0 13 (by simp only [RlP]; omega)]; exact h13
      refine ⟨M6, st M6 105 0 (4 * q + 1) (M6.1 100 0 14), p3.k (P := fun c a j => c = 105) (k3_st rfl) (fun j hj => by omega) (fun j => by omega) (fun j => by omega), by rw [st_ne3 (fun z => absurd z.1 (by decide))]; exact v13, by rw [st_ne3 (fun z => absurd z.1 (by decide)), p2 100 0 24 (by simp [RfP])]; exact a24, by rw [st_ne3 (by omega), p2 105 0 _ (by simp [RfP])]; exact a2, by rw [st_ne3 (by omega), p2 105 0 _ (by simp [RfP])]; exact a3, by rw [st_at, p3.2.2.1.1], k3_trans a4 (k3_trans (k3_sub p2 Rf_l) (k3_st (Rl105 (by omega)))), rfl, fun r M' hh => a5 r M' M6 1 p1 (fun _ => ⟨by rw [v13, e41_], fun M7 hM7 => ?_⟩) (fun z => absurd z n10)⟩
      subst hM7
      refine ⟨by rw [st_ne3 (fun z => absurd z.1 (by decide)), v13, e42_], fun y M8 hM8 => ?_, hh.2⟩
      subst hM8
      exact hh.1 y
    by_cases hif : tk b n j = 10013
    · have hjm : j < m := tk_in hT (by omega)
      have f3 : ∀ {M : Mem} {cs : Cds}, RL M b n m j cs → M.1 100 0 18 = 3 := fun hR => (Iff.of_eq (rt_w18 (r := 3) hT hR.1.2.2.2.2.1 (by omega))).mpr hif
      obtain ⟨r2, v1, v2, v3⟩ := cond_sim hX hT (j + 1) (by omega) (by omega)
      match r2, v1, v2, v3 with
      | .inr (e, p), v1, v2, v3 =>
        refine ⟨.inr (e, p), fun d q x M cs hq hC => ?_, fun f q M cs hq hR h13 hl => ?_, v3⟩
        · obtain ⟨M3, a1, a2, a3, a4, a5⟩ := LnCl_go (X := X) (d := d) (x := x) hq hC
          obtain ⟨M4, p1, p2, p3⟩ := u1 (d + 1) M3 cs a1
          have h5 : CL (st M4 44 1 q (M4.1 40 1 1)) b n m j (cs ++ cv) := p3.c44
          obtain ⟨M6, s1, s2, s3⟩ := c36 (X := X) (d := d + 4) hT h5.1 hjm
          obtain ⟨M7, t1, t2, t3⟩ := v1 d M6 _ ((h5.w.k s2 s3).l (by have := h5.2.2.2; omega))
          obtain ⟨M', z1, z2, z3⟩ := LnE_d (X := X) (d := d) hq t3
          exact ⟨M', k3_trans (k3_sub a4 l43) (k3_trans (k3_sub p2 Sm_l) (k3_trans (k3_sub k_44 l44) (k3_trans (k3_sub s3 Sp_l) (k3_trans (k3_sub t2 Cd_l) z2)))), z1, fun Q hQ => a5 M4 Q p1 ⟨_, _, c34 (t := 10013) hT h5.1 (by decide), fun z => absurd z (by rw [bI1 hif]; exact n10), fun _ => ⟨_, s1, _, t1, z3 Q hQ⟩⟩⟩
        · obtain ⟨M6, M7, a1, a2, a24, a3, a4, a5, a6, a7, a8⟩ := rfv (f := f) hq hR h13 hl
          obtain ⟨M10, s1, s2, s3⟩ := a1.next (X := X) (d := f + 30) hX hT hjm
          obtain ⟨M11, t1, t2, t3⟩ := v2 (f + 38) (by omega) M10 _ s2 (by rw [s3 100 0 24 (by simp [NxP])]; exact a24) (by rw [List.length_append]; omega)
          exact ⟨M11, a8 0 M11 ⟨fun z => absurd (f3 a1) z, fun _ => ⟨_, s1, _, _, t1, fun z => absurd rfl z, fun _ => ⟨rfl, rfl⟩⟩⟩, k3_trans a6 (k3_trans (k3_sub s3 Nx_l) (k3_sub t2 Rc_l)), t3⟩
      | .inl (j2, cc), v1, v2, v3 =>
        obtain ⟨w1, w2, w3, w4, w5⟩ := v3
        have hTy2 : Ty cc [] [true] := w5 [] (by decide)
        have v1 : ∀ d M cs, CL M b n m (j + 1) cs → ∃ M', CC X (d + 5) 45 [vR 3 0] M none M' ∧ K3 CdP M M' ∧ CL M' b n m j2 (cs ++ cc) := v1
        -- both after the condition
        have cl2 : ∀ {d q : Nat} {x : Int32} {M : Mem} {cs : Cds}, q < 16 → CL M b n m (i + 1) cs → ∃ M7, CL M7 b n m j2 (cs ++ cv ++ cc) ∧ M7.1 42 1 q = x ∧ M7.1 43 1 q = iN (tr cs).length ∧ M7.1 44 1 q = iN (tr (cs ++ cv)).length ∧ K3 (LnP q) M M7 ∧ ∀ Q : Option Vl → Mem → Prop, LnE X (d + 5) (iN q) Q M7 → LnG X (d + 5) M (iN q) x Q := by
          intro d q x M cs hq hC
          obtain ⟨M3, a1, a2, a3, a4, a5⟩ := LnCl_go (X := X) (d := d) (x := x) hq hC
          obtain ⟨M4, p1, p2, p3⟩ := u1 (d + 1) M3 cs a1
          have h5 : CL (st M4 44 1 q (M4.1 40 1 1)) b n m j (cs ++ cv) := p3.c44
          obtain ⟨M6, s1, s2, s3⟩ := c36 (X := X) (d := d + 4) hT h5.1 hjm
          obtain ⟨M7, t1, t2, t3⟩ := v1 d M6 _ ((h5.w.k s2 s3).l (by have := h5.2.2.2; omega))
          refine ⟨M7, t3, ?_, ?_, ?_, k3_trans (k3_sub a4 l43) (k3_trans (k3_sub p2 Sm_l) (k3_trans (k3_sub k_44 l44) (k3_trans (k3_sub s3 Sp_l) (k3_sub t2 Cd_l)))), fun Q hQ => a5 M4 Q p1 ⟨_, _, c34 (t := 10013) hT h5.1 (by decide), fun z => absurd z (by rw [bI1 hif]; exact n10), fun _ => ⟨_, s1, _, t1, hQ⟩⟩⟩
          · rw [t2 42 1 q (by simp [CdP]), s3 42 1 q (by simp [SpP]), st_ne3 (fun z => absurd z.1 (by decide)), p2 42 1 q (by simp [SmP])]
            exact a2
          · rw [t2 43 1 q (by simp [CdP]), s3 43 1 q (by simp [SpP]), st_ne3 (fun z => absurd z.1 (by decide)), p2 43 1 q (by simp [SmP])]
            exact a3
          · rw [t2 44 1 q (by simp [CdP]), s3 44 1 q (by simp [SpP]), st_at]
            exact p3.2.1
        have rf2 : ∀ {f q : Nat} {M : Mem} {cs : Cds}, q < 16 → RL M b n m i cs → M.1 100 0 13 = iN q → cs.length ≤ i → ∃ M12, RL M12 b n m j2 (cs ++ cv ++ cc) ∧ M12.1 105 0 (4 * q + 3) = M.1 100 0 18 ∧ M12.1 105 0 (4 * q) = iN cs.length ∧ M12.1 105 0 (4 * q + 1) = iN (cs ++ cv).length ∧ M12.1 105 0 (4 * q + 2) = iN (cs ++ cv ++ cc).length ∧ K3 (RlP q) M M12 ∧ ∀ (r : Int32) (M' : Mem), CC X (f + 38) 177 [vR 100 0, vI 159] M12 (some (vI r)) M' → isB r → CC X (f + 39) 186 [vR 100 0] M (some (vI r)) M' := by
          intro f q M cs hq hR h13 hl
          obtain ⟨M6, M7, a1, a2, a24, a3, a4, a5, a6, a7, a8⟩ := rfv (f := f) hq hR h13 hl
          obtain ⟨M10, s1, s2, s3⟩ := a1.next (X := X) (d := f + 30) hX hT hjm
          obtain ⟨M11, t1, t2, t3⟩ := v2 (f + 38) (by omega) M10 _ s2 (by rw [s3 100 0 24 (by simp [NxP])]; exact a24) (by rw [List.length_append]; omega)
          have t3 : RL M11 b n m j2 (cs ++ cv ++ cc) ∧ M11.1 100 0 24 = iN 0 := t3
          have v13 : M11.1 100 0 13 = iN q := by rw [t2 100 0 13 (by simp [RcP]), s3 100 0 13 (by simp [NxP])]; exact a2
          refine ⟨st M11 105 0 (4 * q + 2) (M11.1 100 0 14), t3.1.k (P := fun c a j => c = 105) (k3_st rfl) (fun j hj => by omega) (fun j => by omega) (fun j => by omega), ?_, ?_, ?_, by rw [st_at]; exact t3.1.2.2.1.1, k3_trans a6 (k3_trans (k3_sub s3 Nx_l) (k3_trans (k3_sub t2 Rc_l) (k3_st (Rl105 (by omega))))), fun r M' hh hb => a8 r M' ⟨fun z => absurd (f3 a1) z, fun _ => ⟨_, s1, _, _, t1, fun _ => ⟨by rw [v13, e42_], fun M12 hM12 => by subst hM12; exact ⟨hh, hb⟩⟩, fun z => absurd z n10⟩⟩⟩
          · rw [st_ne3 (by omega), t2 105 0 _ (by simp [RcP]), s3 105 0 _ (by simp [NxP])]
            exact a3
          · rw [st_ne3 (by omega), t2 105 0 _ (by simp [RcP]), s3 105 0 _ (by simp [NxP])]
            exact a4
          · rw [st_ne3 (by omega), t2 105 0 _ (by simp [RcP]), s3 105 0 _ (by simp [NxP])]
            exact a5
        by_cases hend : tk b n j2 = 20059
        · have hj2 : j2 < m := tk_in hT (by omega)
          refine ⟨.inl (j2 + 1, cv, cc), fun d q x M cs hq hC => ?_, fun f q M cs hq hR h13 hl => ?_, ⟨by omega, by omega, by omega, hTy, Or.inr hTy2⟩⟩
          · obtain ⟨M7, a1, a2, a3, a4, a5, a6⟩ := cl2 (d := d) (x := x) hq hC
            obtain ⟨M', z1, z2, z3, z4, z5⟩ := LnE_ok (X := X) (d := d) hT hq a1 hend
            exact ⟨M', k3_trans a5 (k3_sub z4 (fun c a j z => by simp only [LnP]; omega)), ⟨z1, by rw [z4 42 1 q (by omega)]; exact a2, by rw [z4 43 1 q (by omega)]; exact a3, by rw [z4 44 1 q (by omega)]; exact a4, z2, z3⟩, fun Q hQ => a6 Q (z5 Q hQ)⟩
          · obtain ⟨M12, a1, a2, a3, a4, a5, a6, a7⟩ := rf2 (f := f) hq hR h13 hl
            obtain ⟨M', z1, z2, z3⟩ := c177 (X := X) (d := f + 29) hX hT a1 hj2 (r18_eq (c := 59) a1.1.2.2.2.2.1 (by decide) (by decide) (by decide) hend)
            exact ⟨M', a7 1 M' z1 isB1, k3_trans a6 (k3_sub z3 Nx_l), z2, by rw [z3 105 0 _ (by simp [NxP])]; exact a2, by rw [z3 105 0 _ (by simp [NxP])]; exact a3, by rw [z3 105 0 _ (by simp [NxP])]; exact a4, by rw [z3 105 0 _ (by simp [NxP])]; exact a5⟩
        · refine ⟨.inr (1, j2), fun d q x M cs hq hC => ?_, fun f q M cs hq hR h13 hl => ?_, by show 1 ≤ 1 ∧ 1 ≤ 3; omega⟩
          · obtain ⟨M7, a1, a2, a3, a4, a5, a6⟩ := cl2 (d := d) (x := x) hq hC
            obtain ⟨M', z1, z2, z3⟩ := LnE_f (X := X) (d := d) hT hq a1 hend
            exact ⟨M', k3_trans a5 z2, z1, fun Q hQ => a6 Q (z3 Q hQ)⟩
          · obtain ⟨M12, a1, a2, a3, a4, a5, a6, a7⟩ := rf2 (f := f) hq hR h13 hl
            obtain ⟨M', z1, z2, z3⟩ := c177_f (X := X) (d := f + 36) a1.1 (r18_ne (c := 59) hT a1.1.2.2.2.2.1 (by decide) (by decide) (by decide) hend)
            exact ⟨M', a7 0 M' z1 isB0, k3_trans a6 (k3_sub z3 (fun c a j z => Rc_l c a j (b2_c c a j z))), z2⟩
    · have f3 : ∀ {M : Mem} {cs : Cds}, RL M b n m j cs → ¬ M.1 100 0 18 = 3 := fun hR z => hif ((Iff.of_eq (rt_w18 (r := 3) hT hR.1.2.2.2.2.1 (by omega))).mp z)
      have cl2 : ∀ {d q : Nat} {x : Int32} {M : Mem} {cs : Cds}, q < 16 → CL M b n m (i + 1) cs → ∃ M7, CL M7 b n m j (cs ++ cv) ∧ M7.1 42 1 q = x ∧ M7.1 43 1 q = iN (tr cs).length ∧ M7.1 44 1 q = iN (tr (cs ++ cv)).length ∧ K3 (LnP q) M M7 ∧ ∀ Q : Option Vl → Mem → Prop, LnE X (d + 5) (iN q) Q M7 → LnG X (d + 5) M (iN q) x Q := by
        intro d q x M cs hq hC
        obtain ⟨M3, a1, a2, a3, a4, a5⟩ := LnCl_go (X := X) (d := d) (x := x) hq hC
        obtain ⟨M4, p1, p2, p3⟩ := u1 (d + 1) M3 cs a1
        have h5 : CL (st M4 44 1 q (M4.1 40 1 1)) b n m j (cs ++ cv) := p3.c44
        refine ⟨_, h5, ?_, ?_, ?_, k3_trans (k3_sub a4 l43) (k3_trans (k3_sub p2 Sm_l) (k3_sub k_44 l44)), fun Q hQ => a5 M4 Q p1 ⟨_, _, c34 (t := 10013) hT h5.1 (by decide), fun _ => hQ, fun z => absurd (bI0 hif) z⟩⟩
        · rw [st_ne3 (fun z => absurd z.1 (by decide)), p2 42 1 q (by simp [SmP])]
          exact a2
        · rw [st_ne3 (fun z => absurd z.1 (by decide)), p2 43 1 q (by simp [SmP])]
          exact a3
        · rw [st_at]
          exact p3.2.1
      have rf2 : ∀ {f q : Nat} {M : Mem} {cs : Cds}, q < 16 → RL M b n m i cs → M.1 100 0 13 = iN q → cs.length ≤ i → ∃ M12, RL M12 b n m j (cs ++ cv) ∧ M12.1 105 0 (4 * q + 3) = M.1 100 0 18 ∧ M12.1 105 0 (4 * q) = iN cs.length ∧ M12.1 105 0 (4 * q + 1) = iN (cs ++ cv).length ∧ M12.1 105 0 (4 * q + 2) = iN (cs ++ cv).length ∧ K3 (RlP q) M M12 ∧ ∀ (r : Int32) (M' : Mem), CC X (f + 38) 177 [vR 100 0, vI 159] M12 (some (vI r)) M' → isB r → CC X (f + 39) 186 [vR 100 0] M (some (vI r)) M' := by
        intro f q M cs hq hR h13 hl
        obtain ⟨M6, M7, a1, a2, a24, a3, a4, a5, a6, a7, a8⟩ := rfv (f := f) hq hR h13 hl
        refine ⟨st M7 105 0 (4 * q + 2) (M7.1 100 0 14), a1.k (P := fun c a j => c = 105) (k3_st rfl) (fun j hj => by omega) (fun j => by omega) (fun j => by omega), ?_, ?_, ?_, by rw [st_at]; exact a1.2.2.1.1, k3_trans a6 (k3_st (Rl105 (by omega))), fun r M' hh hb => a8 r M' ⟨fun _ => ⟨hh, hb⟩, fun z => absurd z (f3 a1)⟩⟩
        · rw [st_ne3 (by omega)]
          exact a3
        · rw [st_ne3 (by omega)]
          exact a4
        · rw [st_ne3 (by omega)]
          exact a5
      by_cases hend : tk b n j = 20059
      · have hj2 : j < m := tk_in hT (by omega)
        refine ⟨.inl (j + 1, cv, []), fun d q x M cs hq hC => ?_, fun f q M cs hq hR h13 hl => ?_, ⟨by omega, by omega, by simp only [List.length_nil]; omega, hTy, Or.inl rfl⟩⟩
        · obtain ⟨M7, a1, a2, a3, a4, a5, a6⟩ := cl2 (d := d) (x := x) hq hC
          obtain ⟨M', z1, z2, z3, z4, z5⟩ := LnE_ok (X := X) (d := d) hT hq a1 hend
          refine ⟨M', k3_trans a5 (k3_sub z4 (fun c a j z => by simp only [LnP]; omega)), ?_, fun Q hQ => a6 Q (z5 Q hQ)⟩
          show CL M' b n m (j + 1) (cs ++ cv ++ []) ∧ _ ∧ _ ∧ _ ∧ M'.1 45 1 q = iN (tr (cs ++ cv ++ [])).length ∧ _
          rw [List.append_nil]
          exact ⟨z1, by rw [z4 42 1 q (by omega)]; exact a2, by rw [z4 43 1 q (by omega)]; exact a3, by rw [z4 44 1 q (by omega)]; exact a4, z2, z3⟩
        · obtain ⟨M12, a1, a2, a3, a4, a5, a6, a7⟩ := rf2 (f := f) hq hR h13 hl
          obtain ⟨M', z1, z2, z3⟩ := c177 (X := X) (d := f + 29) hX hT a1 hj2 (r18_eq (c := 59) a1.1.2.2.2.2.1 (by decide) (by decide) (by decide) hend)
          refine ⟨M', a7 1 M' z1 isB1, k3_trans a6 (k3_sub z3 Nx_l), ?_⟩
          show RL M' b n m (j + 1) (cs ++ cv ++ []) ∧ _ ∧ _ ∧ _ ∧ M'.1 105 0 (4 * q + 2) = iN (cs ++ cv ++ []).length
          rw [List.append_nil]
          exact ⟨z2, by rw [z3 105 0 _ (by simp [NxP])]; exact a2, by rw [z3 105 0 _ (by simp [NxP])]; exact a3, by rw [z3 105 0 _ (by simp [NxP])]; exact a4, by rw [z3 105 0 _ (by simp [NxP])]; exact a5⟩
      · refine ⟨.inr (1, j), fun d q x M cs hq hC => ?_, fun f q M cs hq hR h13 hl => ?_, by show 1 ≤ 1 ∧ 1 ≤ 3; omega⟩
        · obtain ⟨M7, a1, a2, a3, a4, a5, a6⟩ := cl2 (d := d) (x := x) hq hC
          obtain ⟨M', z1, z2, z3⟩ := LnE_f (X := X) (d := d) hT hq a1 hend
          exact ⟨M', k3_trans a5 z2, z1, fun Q hQ => a6 Q (z3 Q hQ)⟩
        · obtain ⟨M12, a1, a2, a3, a4, a5, a6, a7⟩ := rf2 (f := f) hq hR h13 hl
          obtain ⟨M', z1, z2, z3⟩ := c177_f (X := X) (d := f + 36) a1.1 (r18_ne (c := 59) hT a1.1.2.2.2.2.1 (by decide) (by decide) (by decide) hend)
          exact ⟨M', a7 0 M' z1 isB0, k3_trans a6 (k3_sub z3 (fun c a j z => Rc_l c a j (b2_c c a j z))), z2⟩
