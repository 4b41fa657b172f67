/-! the reference passes a day -/
abbrev Wd : Nat → Nat → Nat → Prop := fun c a j => Wm c a j ∨ Wb c a j
theorem LawM.kd {M M2 : Mem} {L : Lw} (h : LawM (M.1 101 0) L) (k : K3 Wd M M2) : LawM (M2.1 101 0) L := h.keep (k 101 0 232 (by simp [Wd, Wm, Wb])) (fun j hj => k 101 0 j (by simp only [Wd, Wm, Wb]; omega))
theorem Wd_w {k : Nat} (h : 229 ≤ k) (h2 : k < 645) : ¬ Wd 101 0 k := by
  simp only [Wd, Wm, Wb]
  omega
theorem c226_sky {X : Cx} {d n : Nat} {cnt : Int32} (hn : n ≤ 16) : ∀ (S : Sk) (i : Nat) (M : Mem), i + S.length = n → M.1 101 0 234 = iN n → (∀ (j : Nat) (y : Int32) (s : Nat), S[j]? = some (y, s) → M.1 101 0 (431 + 3 * (i + j)) = y ∧ (s ≤ 9 → M.1 101 0 (431 + 3 * (i + j) + 1) = 11 ∧ M.1 101 0 (431 + 3 * (i + j) + 2) = iN s) ∧ (s = 10 → M.1 101 0 (431 + 3 * (i + j) + 1) = 12) ∧ (s = 11 → M.1 101 0 (431 + 3 * (i + j) + 1) = 13) ∧ s ≤ 11) →
    ∃ M', TM M' = skyS (TM M) S ∧ K3 (fun c e j => c = 101 ∧ e = 0 ∧ j < 2) M M' ∧ ∀ Q : Option Vl → Mem → Prop, V X (d + 2) 226 56 [some (vR 100 0), some (vI cnt), some (vI 0), none] [] M' Q → V X (d + 2) 226 4 [some (vR 100 0), some (vI cnt), some (vI (iN i)), none] [] M Q
  | [], i, M, hi, h1, _ => by
    have hi : i = n := hi
    subst hi
    refine ⟨M, rfl, k3_refl, fun Q hQ => w226_4 ?_⟩
    simp only [forall_eq, true_implies, false_implies, not_true_eq_false, not_false_eq_true, and_true, true_and, and_self, isB0, isB1, bI_t0, bI_f0, i10_, i20_, i01_, i02_, i12_, i21_, show inb 234 2129 from inb_l (by decide) (by decide), show ix 234 = 234 from ix_l (by decide), h1, yle_ (a := i) (b := i) (by omega) (by omega) (Nat.le_refl _)]
    exact hQ
  | (y, s) :: S, i, M, hi, h1, hS => by
    simp only [List.length_cons] at hi
    have h0 := hS 0 y s rfl
    rw [Nat.add_zero] at h0
    obtain ⟨g1, g2, g3, g4, g5⟩ := h0
    have t4 : M.1 101 0 3 = TM M 20 4 := TW_c (c := 20) (j := 4) (by decide)
    have hrec : ∀ M1, K3 (fun c e j => c = 101 ∧ e = 0 ∧ j < 2) M M1 → TM M1 = sky1 (TM M) y s → ∃ M', TM M' = skyS (TM M) ((y, s) :: S) ∧ K3 (fun c e j => c = 101 ∧ e = 0 ∧ j < 2) M M' ∧ ∀ Q : Option Vl → Mem → Prop, V X (d + 2) 226 56 [some (vR 100 0), some (vI cnt), some (vI 0), none] [] M' Q → V X (d + 2) 226 4 [some (vR 100 0), some (vI cnt), some (vI (iN (i + 1))), none] [] M1 Q := by
      intro M1 k1 e1
      obtain ⟨M', p1, p2, p3⟩ := c226_sky (X := X) (d := d) (cnt := cnt) hn S (i + 1) M1 (by omega) (by rw [k1 101 0 234 (by omega)]; exact h1) (fun j y s hj => by
        rw [show i + 1 + j = i + (j + 1) by omega, k1 101 0 _ (by omega), k1 101 0 _ (by omega), k1 101 0 _ (by omega)]
        exact hS (j + 1) y s hj)
      rw [e1] at p1
      exact ⟨M', p1, k3_trans k1 p2, p3⟩
    have e0 : 431 + 3 * iN i = iN (431 + 3 * i) := by simp only [iN_lit, iN_mul, iN_add]
    have e1 : iN (431 + 3 * i) + 1 = iN (431 + 3 * i + 1) := by simp only [iN_lit, iN_add]
    have e2 : iN (431 + 3 * i) + 2 = iN (431 + 3 * i + 2) := by simp only [iN_lit, iN_add]
    have f1 : (iN n ≤ iN i) = False := nle_ (by omega) (by omega) (by omega)
    have b0 : inb (iN (431 + 3 * i)) 2129 := inb_of (by omega) (by decide)
    have b1 : inb (iN (431 + 3 * i + 1)) 2129 := inb_of (by omega) (by decide)
    have b2 : inb (iN (431 + 3 * i + 2)) 2129 := inb_of (by omega) (by decide)
    have x0 : ix (iN (431 + 3 * i)) = 431 + 3 * i := ix_of (by omega)
    have x1 : ix (iN (431 + 3 * i + 1)) = 431 + 3 * i + 1 := ix_of (by omega)
    have x2 : ix (iN (431 + 3 * i + 2)) = 431 + 3 * i + 2 := ix_of (by omega)
    have i234 : inb 234 2129 := inb_l (by decide) (by decide)
    have x234 : ix 234 = 234 := ix_l (by decide)
    have i3 : inb 3 2129 := inb_l (by decide) (by decide)
    have x3 : ix 3 = 3 := ix_l (by decide)
    have i0 : inb 0 2129 := inb_l (by decide) (by decide)
    have y0 : ix 0 = 0 := ix_l (by decide)
    have i1 : inb 1 2129 := inb_l (by decide) (by decide)
    have y1 : ix 1 = 1 := ix_l (by decide)
    by_cases hy : y = TM M 20 4
    · by_cases hs : s ≤ 9
      · obtain ⟨g21, g22⟩ := g2 hs
        have cs : CC X (d + 1) 223 [vR 100 0, vI (iN (431 + 3 * i))] M none (st M 101 0 0 (iN s)) := by
          refine e223 (w223_0 ?_)
          simp only [forall_eq, true_implies, false_implies, not_true_eq_false, not_false_eq_true, and_true, true_and, and_self, isB0, isB1, bI_t0, bI_f0, i10_, i20_, i01_, i02_, i12_, i21_, e1, e2, b1, b2, x1, x2, g21, g22, i0, y0]
        obtain ⟨M', p1, p2, p3⟩ := hrec (st M 101 0 0 (iN s)) (k3_st ⟨rfl, rfl, by decide⟩) (by
          unfold sky1
          rw [if_pos hy, if_pos hs, TM_20_1])
        refine ⟨M', p1, p2, fun Q hQ => w226_4 ?_⟩
        simp only [forall_eq, true_implies, false_implies, not_true_eq_false, not_false_eq_true, and_true, true_and, and_self, isB0, isB1, bI_t0, bI_f0, i10_, i20_, i01_, i02_, i12_, i21_, i234, x234, h1, f1, e0, b0, x0, i3, x3, g1, t4, hy, iN_step]
        exact ⟨_, cs, p3 Q hQ⟩
      · by_cases hs2 : s = 10
        · have g31 := g3 hs2
          have cs : CC X (d + 1) 223 [vR 100 0, vI (iN (431 + 3 * i))] M none (st M 101 0 1 1) := by
            refine e223 (w223_0 ?_)
            simp only [forall_eq, true_implies, false_implies, not_true_eq_false, not_false_eq_true, and_true, true_and, and_self, isB0, isB1, bI_t0, bI_f0, i10_, i20_, i01_, i02_, i12_, i21_, e1, b1, x1, g31, i1, y1, show ((12 : Int32) = 11) = False from by decide]
          obtain ⟨M', p1, p2, p3⟩ := hrec (st M 101 0 1 1) (k3_st ⟨rfl, rfl, by decide⟩) (by
            unfold sky1
            rw [if_pos hy, if_neg hs, if_pos hs2, TM_20_2])
          refine ⟨M', p1, p2, fun Q hQ => w226_4 ?_⟩
          simp only [forall_eq, true_implies, false_implies, not_true_eq_false, not_false_eq_true, and_true, true_and, and_self, isB0, isB1, bI_t0, bI_f0, i10_, i20_, i01_, i02_, i12_, i21_, i234, x234, h1, f1, e0, b0, x0, i3, x3, g1, t4, hy, iN_step]
          exact ⟨_, cs, p3 Q hQ⟩
        · have g41 := g4 (by omega)
          have cs : CC X (d + 1) 223 [vR 100 0, vI (iN (431 + 3 * i))] M none (st M 101 0 1 0) := by
            refine e223 (w223_0 ?_)
            simp only [forall_eq, true_implies, false_implies, not_true_eq_false, not_false_eq_true, and_true, true_and, and_self, isB0, isB1, bI_t0, bI_f0, i10_, i20_, i01_, i02_, i12_, i21_, e1, b1, x1, g41, i1, y1, show ((13 : Int32) = 11) = False from by decide, show ((13 : Int32) = 12) = False from by decide]
          obtain ⟨M', p1, p2, p3⟩ := hrec (st M 101 0 1 0) (k3_st ⟨rfl, rfl, by decide⟩) (by
            unfold sky1
            rw [if_pos hy, if_neg hs, if_neg hs2, TM_20_2])
          refine ⟨M', p1, p2, fun Q hQ => w226_4 ?_⟩
          simp only [forall_eq, true_implies, false_implies, not_true_eq_false, not_false_eq_true, and_true, true_and, and_self, isB0, isB1, bI_t0, bI_f0, i10_, i20_, i01_, i02_, i12_, i21_, i234, x234, h1, f1, e0, b0, x0, i3, x3, g1, t4, hy, iN_step]
          exact ⟨_, cs, p3 Q hQ⟩
    · obtain ⟨M', p1, p2, p3⟩ := hrec M k3_refl (by
        unfold sky1
        rw [if_neg hy])
      refine ⟨M', p1, p2, fun Q hQ => w226_4 ?_⟩
      simp only [forall_eq, true_implies, false_implies, not_true_eq_false, not_false_eq_true, and_true, true_and, and_self, isB0, isB1, bI_t0, bI_f0, i10_, i20_, i01_, i02_, i12_, i21_, i234, x234, h1, f1, e0, b0, x0, i3, x3, g1, t4, hy, iN_step]
      exact p3 Q hQ
theorem c225 {X : Cx} {d : Nat} {M : Mem} {l R k : Nat} (hl : l ≤ 2000) (hk : k ≤ 6) (h1 : ∀ j, j < k → M.1 101 0 (l + 3 + j) = iN (R / 10 ^ (k - 1 - j) % 10)) (h2 : ∀ j, k ≤ j → j < 6 → M.1 101 0 (l + 3 + j) = -1) : ∃ M', CC X (d + 1) 225 [vR 100 0, vI (iN l)] M none M' ∧ ByR M' (digs R k) ∧ K3 Wb M M' := by
  obtain ⟨M', ⟨i1, i2, i3⟩, hV⟩ := for_fwd (n := 6) (M := st M 100 0 28 0)
    (I := fun t Mt => Mt.1 100 0 28 = iN (min t k) ∧ (∀ j, j < t → j < k → Mt.1 111 0 j = iN (R / 10 ^ (k - 1 - j) % 10)) ∧ K3 Wb M Mt)
    (St := fun t Mt Q => V X (d + 1) 225 7 [some (vR 100 0), some (vI (iN l)), some (vI (iN t))] [] Mt Q)
    (by
      rintro t Mt ht ⟨g1, g2, g3⟩
      have e1 : iN l + 3 + iN t = iN (l + 3 + t) := by simp only [iN_lit, iN_add]
      have w1 : Mt.1 101 0 (l + 3 + t) = M.1 101 0 (l + 3 + t) := g3 101 0 _ (by simp [Wb])
      have f0 : (6 ≤ iN t) = False := nle_ (a := 6) (by decide) (by omega) ht
      have f1 : inb (iN (l + 3 + t)) 2129 := inb_of (by omega) (by decide)
      have f2 : ix (iN (l + 3 + t)) = l + 3 + t := ix_of (by omega)
      by_cases htk : t < k
      · have hm : min t k = t := Nat.min_eq_left (by omega)
        rw [hm] at g1
        have hv : Mt.1 101 0 (l + 3 + t) = iN (R / 10 ^ (k - 1 - t) % 10) := by rw [w1]; exact h1 t htk
        have hlt : R / 10 ^ (k - 1 - t) % 10 < 10 := Nat.mod_lt _ (by decide)
        have hne : (iN (R / 10 ^ (k - 1 - t) % 10) = -1) = False := eq_false (fun z => by
          have := iN_nn (n := R / 10 ^ (k - 1 - t) % 10) (by omega)
          rw [z] at this
          exact absurd this (by decide))
        refine ⟨st (st Mt 111 0 t (iN (R / 10 ^ (k - 1 - t) % 10))) 100 0 28 (iN (t + 1)), ⟨by rw [st_at, Nat.min_eq_left (by omega)], fun j q1 q2 => ?_, k3_trans (k3_trans g3 (k3_st (Or.inl ⟨rfl, rfl⟩))) (k3_st (Or.inr ⟨rfl, rfl, rfl⟩))⟩, fun Q hQ => w225_7 ?_⟩
        · rw [st_ne3 (fun z => absurd z.1 (by decide))]
          by_cases hj : j = t
          · subst hj
            rw [st_at]
          · rw [st_ne3 (by omega)]
            exact g2 j (by omega) q2
        · have g1' : ∀ y, (st Mt 111 0 t y).1 100 0 28 = iN t := fun y => by rw [st_ne3 (fun z => absurd z.1 (by decide))]; exact g1
          simp only [forall_eq, true_implies, false_implies, not_true_eq_false, not_false_eq_true, and_true, true_and, and_self, isB0, isB1, bI_t0, bI_f0, i10_, i20_, i01_, i02_, i12_, i21_, f0, e1, f1, f2, hv, hne, g1, show inb (iN t) 6 from inb_of (by omega) (by decide), ix_of (show t < 2147483648 by omega), g1', iN_step]
          exact hQ
      · have hm : min (t + 1) k = min t k := by rw [Nat.min_eq_right (by omega), Nat.min_eq_right (by omega)]
        refine ⟨Mt, ⟨by rw [hm]; exact g1, fun j q1 q2 => g2 j (by omega) q2, g3⟩, fun Q hQ => w225_7 ?_⟩
        have hv : Mt.1 101 0 (l + 3 + t) = -1 := by rw [w1]; exact h2 t (by omega) ht
        simp only [forall_eq, true_implies, false_implies, not_true_eq_false, not_false_eq_true, and_true, true_and, and_self, isB0, isB1, bI_t0, bI_f0, i10_, i20_, i01_, i02_, i12_, i21_, f0, e1, f1, f2, hv, iN_step]
        exact hQ)
    ⟨by rw [st_at, Nat.zero_min]; rfl, fun j q1 => absurd q1 (by omega), k3_st (Or.inr ⟨rfl, rfl, rfl⟩)⟩
  refine ⟨M', e225 (w225_0 ?_), ⟨by rw [digs_len]; exact hk, by rw [digs_len, i1, Nat.min_eq_right hk], fun j f hj => ?_⟩, i3⟩
  · rintro M1 rfl
    refine hV _ (w225_7 ?_)
    simp only [forall_eq, true_implies, false_implies, not_true_eq_false, not_false_eq_true, and_true, true_and, and_self, isB0, isB1, bI_t0, bI_f0, i10_, i20_, i01_, i02_, i12_, i21_, show ((6 : Int32) ≤ iN 6) = True from by decide]
  · obtain ⟨q1, q2⟩ := digs_get hj
    rw [i2 j (by omega) q1, q2]
theorem c226_calls {X : Cx} {d n n5 n6 n7 : Nat} {L : Lw} {real : Bool} (hLT : LawT L) (hn : n ≤ 16) : ∀ (C : Cl) (i cnt B : Nat) (M : Mem) (s : Bk), i + C.length = n → M.1 101 0 233 = iN n → (∀ (j : Nat) (y : Int32) (p R k e : Nat), C[j]? = some (y, p, R, k, e) → M.1 101 0 (287 + 9 * (i + j)) = y ∧ M.1 101 0 (287 + 9 * (i + j) + 1) = iN p ∧ M.1 101 0 (287 + 9 * (i + j) + 2) = iN e ∧ (∀ q, q < k → M.1 101 0 (287 + 9 * (i + j) + 3 + q) = iN (R / 10 ^ (k - 1 - q) % 10)) ∧ ∀ q, k ≤ q → q < 6 → M.1 101 0 (287 + 9 * (i + j) + 3 + q) = -1) → ClT C n5 n6 n7 → LawM (M.1 101 0) L → VTn B (TM M) n5 n6 n7 → M.1 100 0 26 = bI real → BkM (M.1 101 0) s →
    ∃ M', TM M' = (callsS L n6 real (TM M) C).1 ∧ BkM (M'.1 101 0) (bkL s (callsS L n6 real (TM M) C).2.2) ∧ K3 Wd M M' ∧ ∀ Q : Option Vl → Mem → Prop, V X (d + 8) 226 132 [some (vR 100 0), some (vI (iN (cnt + (callsS L n6 real (TM M) C).2.1))), some (vI 0), none] [] M' Q → V X (d + 8) 226 56 [some (vR 100 0), some (vI (iN cnt)), some (vI (iN i)), none] [] M Q
  | [], i, cnt, B, M, s, hi, h0, _, _, _, _, _, hb => by
    have hi : i = n := hi
    subst hi
    refine ⟨M, rfl, hb, k3_refl, fun Q hQ => w226_56 ?_⟩
    simp only [forall_eq, true_implies, false_implies, not_true_eq_false, not_false_eq_true, and_true, true_and, and_self, isB0, isB1, bI_t0, bI_f0, i10_, i20_, i01_, i02_, i12_, i21_, show inb 233 2129 from inb_l (by decide) (by decide), show ix 233 = 233 from ix_l (by decide), h0, yle_ (a := i) (b := i) (by omega) (by omega) (Nat.le_refl _)]
    exact hQ
  | (y, p, R, k, e) :: C, i, cnt, B, M, s, hi, h0, hC, hT, hL, hv, hr, hb => by
    simp only [List.length_cons] at hi
    have hrT : ClT C n5 n6 n7 := ⟨by have := hT.1; simp only [List.length_cons] at this; omega, fun i y p R k e hi => hT.2 (i + 1) y p R k e hi⟩
    obtain ⟨d1, d2, d3, d4, d5, d6, d7⟩ := hT.2 0 y p R k e rfl
    have g0 := hC 0 y p R k e rfl
    rw [Nat.add_zero] at g0
    obtain ⟨g1, g2, g3, g4, g5⟩ := g0
    have t4 : M.1 101 0 3 = TM M 20 4 := TW_c (c := 20) (j := 4) (by decide)
    have f1 : (iN n ≤ iN i) = False := nle_ (by omega) (by omega) (by omega)
    have q0 : 287 + 9 * iN i = iN (287 + 9 * i) := by simp only [iN_lit, iN_mul, iN_add]
    have q1 : iN (287 + 9 * i) + 1 = iN (287 + 9 * i + 1) := by simp only [iN_lit, iN_add]
    have q2 : iN (287 + 9 * i) + 2 = iN (287 + 9 * i + 2) := by simp only [iN_lit, iN_add]
    have b0 : inb (iN (287 + 9 * i)) 2129 := inb_of (by omega) (by decide)
    have b1 : inb (iN (287 + 9 * i + 1)) 2129 := inb_of (by omega) (by decide)
    have b2 : inb (iN (287 + 9 * i + 2)) 2129 := inb_of (by omega) (by decide)
    have x0 : ix (iN (287 + 9 * i)) = 287 + 9 * i := ix_of (by omega)
    have x1 : ix (iN (287 + 9 * i + 1)) = 287 + 9 * i + 1 := ix_of (by omega)
    have x2 : ix (iN (287 + 9 * i + 2)) = 287 + 9 * i + 2 := ix_of (by omega)
    have i233 : inb 233 2129 := inb_l (by decide) (by decide)
    have x233 : ix 233 = 233 := ix_l (by decide)
    have i3 : inb 3 2129 := inb_l (by decide) (by decide)
    have x3 : ix 3 = 3 := ix_l (by decide)
    by_cases hy : y = TM M 20 4
    · obtain ⟨M0, a1, a2, a3⟩ := c225 (X := X) (d := d + 6) (M := M) (l := 287 + 9 * i) (R := R) (k := k) (by omega) d4 g4 g5
      have w0 : M0.1 101 0 = M.1 101 0 := k3_col a3 (fun _ => by simp [Wb])
      have T0 : TM M0 = TM M := TM_k a3 (fun _ => by simp [Wb])
      obtain ⟨M1, p1, p2, -, p4, p5⟩ := c216 (X := X) (d := d) (M := M0) (p := p) (e := e) (L := L) (s := s) (real := real) (fs := digs R k) (by rw [w0]; exact hL) hLT (by rw [T0]; exact hv) d1 d2 (by rw [a3 100 0 26 (by simp [Wb])]; exact hr) a2 d7 (by rw [w0]; exact hb)
      rw [T0] at p1 p2 p4
      have hvis := visitS_v (L := L) (real := real) hv d1 d2 d7
      have kd : K3 Wd M M1 := k3_trans (k3_sub a3 (fun c a j z => Or.inr z)) (k3_sub p5 (fun c a j z => Or.inl z))
      obtain ⟨M', z1, z2, z3, z4⟩ := c226_calls (X := X) (d := d) hLT hn C (i + 1) (cnt + 1) (B + 90) M1 _ (by omega) (by rw [kd 101 0 233 (Wd_w (by decide) (by decide))]; exact h0) (fun j y p R k e hj => by
        have hjl : j < C.length := (List.getElem?_eq_some_iff.mp hj).1
        have := hC (j + 1) y p R k e hj
        rw [show i + 1 + j = i + (j + 1) by omega, kd 101 0 _ (Wd_w (by omega) (by omega)), kd 101 0 _ (Wd_w (by omega) (by omega)), kd 101 0 _ (Wd_w (by omega) (by omega))]
        have hk6 := (hT.2 (j + 1) y p R k e hj).2.2.2.1
        exact ⟨this.1, this.2.1, this.2.2.1, fun q hq => by rw [kd 101 0 _ (Wd_w (by omega) (by omega))]; exact this.2.2.2.1 q hq, fun q hq1 hq2 => by rw [kd 101 0 _ (Wd_w (by omega) (by omega))]; exact this.2.2.2.2 q hq1 hq2⟩) hrT (hL.kd kd) (by rw [p2]; exact hvis.1) (by rw [kd 100 0 26 (by simp [Wd, Wm, Wb])]; exact hr) p4
      rw [p2] at z1 z2 z4
      have es : callsS L n6 real (TM M) ((y, p, R, k, e) :: C) = ((callsS L n6 real (visitS L (TM M) n6 p (digs R k) e real).1 C).1, (callsS L n6 real (visitS L (TM M) n6 p (digs R k) e real).1 C).2.1 + 1, visE (TM M) p (visitS L (TM M) n6 p (digs R k) e real) real ++ (callsS L n6 real (visitS L (TM M) n6 p (digs R k) e real).1 C).2.2) := if_pos hy
      rw [es]
      refine ⟨M', z1, by rw [bkL_app]; exact z2, k3_trans kd z3, fun Q hQ => w226_56 ?_⟩
      simp only [forall_eq, true_implies, false_implies, not_true_eq_false, not_false_eq_true, and_true, true_and, and_self, isB0, isB1, bI_t0, bI_f0, i10_, i20_, i01_, i02_, i12_, i21_, i233, x233, h0, f1, q0, b0, x0, i3, x3, g1, t4, hy, iN_step]
      refine ⟨_, a1, ?_⟩
      simp only [forall_eq, true_implies, false_implies, not_true_eq_false, not_false_eq_true, and_true, true_and, and_self, isB0, isB1, bI_t0, bI_f0, i10_, i20_, i01_, i02_, i12_, i21_, q1, q2, b1, b2, x1, x2, w0, g2, g3]
      refine ⟨_, _, p1, z4 Q ?_⟩
      rw [show cnt + 1 + (callsS L n6 real (visitS L (TM M) n6 p (digs R k) e real).1 C).2.1 = cnt + ((callsS L n6 real (visitS L (TM M) n6 p (digs R k) e real).1 C).2.1 + 1) by omega]
      exact hQ
    · have es : callsS L n6 real (TM M) ((y, p, R, k, e) :: C) = callsS L n6 real (TM M) C := if_neg hy
      obtain ⟨M', z1, z2, z3, z4⟩ := c226_calls (X := X) (d := d) hLT hn C (i + 1) cnt B M s (by omega) h0 (fun j y p R k e hj => by
        rw [show i + 1 + j = i + (j + 1) by omega]
        exact hC (j + 1) y p R k e hj) hrT hL hv hr hb
      rw [es]
      refine ⟨M', z1, z2, z3, fun Q hQ => w226_56 ?_⟩
      simp only [forall_eq, true_implies, false_implies, not_true_eq_false, not_false_eq_true, and_true, true_and, and_self, isB0, isB1, bI_t0, bI_f0, i10_, i20_, i01_, i02_, i12_, i21_, i233, x233, h0, f1, q0, b0, x0, i3, x3, g1, t4, hy, iN_step]
      exact z4 Q hQ
theorem TM_25 {M : Mem} {p : Nat} (h : p < 12) : M.1 101 0 (251 + p) = TM M 25 p := TW_c (show okC 25 p = true by simpa [okC] using h)
theorem c224 {X : Cx} {d : Nat} {M : Mem} {B n5 n6 n7 p : Nat} {s : Bk} {real : Bool} (hv : VTn B (TM M) n5 n6 n7) (hp : p < n7) (hr : M.1 100 0 26 = bI real) (hb : BkM (M.1 101 0) s) : ∃ M', CC X (d + 3) 224 [vR 100 0, vI (iN p)] M none M' ∧ TM M' = (dropF (TM M) p (ix (TM M 25 p)) n5 10).1 ∧ BkM (M'.1 101 0) (bkL s (dropE (TM M) p (dropF (TM M) p (ix (TM M 25 p)) n5 10).2 real)) ∧ K3 Wm M M' := by
  obtain ⟨c5, c6, c7, q5, q6, q7⟩ := vt_m hv
  obtain ⟨h, sz, bb, h1, h2, -⟩ := id hv.2.2.2.2.2.2.2.2.1 p hp
  have m25 : M.1 101 0 (251 + p) = iN h := (TM_25 (by omega)).trans h2
  rw [h2, ix_of (by omega)]
  have q251 : 251 + iN p = iN (251 + p) := by simp only [iN_lit, iN_add]
  have b251 : inb (iN (251 + p)) 2129 := inb_of (by omega) (by decide)
  have x251 : ix (iN (251 + p)) = 251 + p := ix_of (by omega)
  obtain ⟨Mn, ⟨g1, g2⟩, hV⟩ := for_fwd (n := 10) (M := M)
    (I := fun j Mj => TM Mj = (dropF (TM M) p h n5 j).1 ∧ K3 (fun c b i => c = 101 ∧ b = 0 ∧ 7 ≤ i ∧ i < 229) M Mj)
    (St := fun j Mj Q => V X (d + 3) 224 4 [some (vR 100 0), some (vI (iN p)), some (vI (dropF (TM M) p h n5 j).2), some (vI (iN j)), none] [] Mj Q)
    (by
      rintro j Mj hj ⟨i1, i2⟩
      have t29 : Mj.1 101 0 (109 + (p * 10 + j)) = (dropF (TM M) p h n5 j).1 29 (p * 10 + j) := by rw [← i1]; exact TW_c (okT29 (by omega) hj)
      have t24 : Mj.1 101 0 (29 + (h * 10 + j)) = (dropF (TM M) p h n5 j).1 24 (h * 10 + j) := by rw [← i1]; exact TW_c (okT24 (by omega) hj)
      have l10 : (10 ≤ iN j) = False := nle_ (a := 10) (by decide) (by omega) hj
      have bj : inb (iN (109 + (p * 10 + j))) 2129 := inb_of (by omega) (by decide)
      have xj : ix (iN (109 + (p * 10 + j))) = 109 + (p * 10 + j) := ix_of (by omega)
      have zf : ∃ x : Nat, x ≤ 90 ∧ (dropF (TM M) p h n5 j).1 29 (p * 10 + j) = iN x ∧ (n5 ≤ j → x = 0) := boot_n (dropF_v (h := h) hv hp h1 (j := j) (by omega)) hp hj
      have l22 : ∃ l : Nat, l ≤ 9999 ∧ (dropF (TM M) p h n5 j).1 22 j = iN l := by
        rw [dropF_keep (by omega)]
        exact hv.2.2.2.2.2.2.2.1 j hj
      generalize hD : dropF (TM M) p h n5 j = D at *
      have eD : dropF (TM M) p h n5 (j + 1) = (if TM M 23 h = 1 then (if j < n5 then up2 (up2 D.1 29 (p * 10 + j) (D.1 29 (p * 10 + j) - D.1 29 (p * 10 + j) / 2)) 22 j (lsr 9999 (D.1 22 j + D.1 29 (p * 10 + j) / 2)) else up2 D.1 29 (p * 10 + j) (D.1 29 (p * 10 + j) - D.1 29 (p * 10 + j) / 2)) else up2 (up2 D.1 29 (p * 10 + j) (D.1 29 (p * 10 + j) - D.1 29 (p * 10 + j) / 2)) 24 (h * 10 + j) (D.1 24 (h * 10 + j) + D.1 29 (p * 10 + j) / 2), D.2 + D.1 29 (p * 10 + j) / 2) := by
        rw [← hD]
        rfl
      rw [eD]
      have tA : TM (st Mj 101 0 (109 + (p * 10 + j)) (D.1 29 (p * 10 + j) - D.1 29 (p * 10 + j) / 2)) = up2 D.1 29 (p * 10 + j) (D.1 29 (p * 10 + j) - D.1 29 (p * 10 + j) / 2) := by rw [TM_29 (by omega), i1]
      have s251 : ∀ y, (st Mj 101 0 (109 + (p * 10 + j)) y).1 101 0 (251 + p) = iN h := fun y => by rw [st_ne3 (by omega), i2 101 0 _ (by omega)]; exact m25
      have s24 : ∀ y, (st Mj 101 0 (109 + (p * 10 + j)) y).1 101 0 (29 + (h * 10 + j)) = D.1 24 (h * 10 + j) := fun y => by rw [st_ne3 (by omega)]; exact t24
      have s23 : TM (st Mj 101 0 (109 + (p * 10 + j)) (D.1 29 (p * 10 + j) - D.1 29 (p * 10 + j) / 2)) 23 h = TM M 23 h := by
        rw [tA, up2_ne (by omega), ← hD]
        exact dropF_keep (by omega)
      have cst := c158 (X := X) (d := d + 1) (M := st Mj 101 0 (109 + (p * 10 + j)) (D.1 29 (p * 10 + j) - D.1 29 (p * 10 + j) / 2)) (e := h) (by omega)
      rw [s23] at cst
      by_cases hst : TM M 23 h = 1
      · rw [if_pos hst] at cst ⊢
        have cl := c219 (X := X) (d := d) (M := st Mj 101 0 (109 + (p * 10 + j)) (D.1 29 (p * 10 + j) - D.1 29 (p * 10 + j) / 2)) (f := j) (x := D.1 29 (p * 10 + j) / 2) hj
        rw [tA, up2_ne (c' := 22) (by omega)] at cl
        refine ⟨st (st Mj 101 0 (109 + (p * 10 + j)) (D.1 29 (p * 10 + j) - D.1 29 (p * 10 + j) / 2)) 101 0 (7 + j) (lsr 9999 (D.1 22 j + D.1 29 (p * 10 + j) / 2)), ⟨?_, k3_trans (k3_trans i2 (k3_st ⟨rfl, rfl, by omega, by omega⟩)) (k3_st ⟨rfl, rfl, by omega, by omega⟩)⟩, fun Q hQ => w224_4 ?_⟩
        · rw [TM_22 hj, tA]
          by_cases hjn : j < n5
          · rw [if_pos hjn]
          · rw [if_neg hjn]
            obtain ⟨x, -, zx, z0⟩ := zf
            obtain ⟨l, l1, l2⟩ := l22
            have hx0 := z0 (by omega)
            subst hx0
            have e2 : lsr 9999 (D.1 22 j + D.1 29 (p * 10 + j) / 2) = D.1 22 j := by
              rw [zx, l2, half_n (by decide), iN_add, iN_lit 9999, lsr_n (by decide) (by omega), Nat.min_eq_right (by omega)]
              rfl
            rw [e2]
            have e3 : up2 D.1 29 (p * 10 + j) (D.1 29 (p * 10 + j) - D.1 29 (p * 10 + j) / 2) 22 j = D.1 22 j := up2_ne (by omega)
            conv => lhs; rw [← e3]
            exact up2_id
        · simp only [forall_eq, true_implies, false_implies, not_true_eq_false, not_false_eq_true, and_true, true_and, and_self, isB0, isB1, bI_t0, bI_f0, i10_, i20_, i01_, i02_, i12_, i21_, l10, iN_109, bj, xj, t29, q251, b251, x251, s251]
          refine ⟨_, _, cst, ?_⟩
          simp only [forall_eq, true_implies, false_implies, not_true_eq_false, not_false_eq_true, and_true, true_and, and_self, isB0, isB1, bI_t0, bI_f0, i10_, i20_, i01_, i02_, i12_, i21_, iN_step]
          exact ⟨_, cl, hQ⟩
      · rw [if_neg hst] at cst ⊢
        refine ⟨st (st Mj 101 0 (109 + (p * 10 + j)) (D.1 29 (p * 10 + j) - D.1 29 (p * 10 + j) / 2)) 101 0 (29 + (h * 10 + j)) (D.1 24 (h * 10 + j) + D.1 29 (p * 10 + j) / 2), ⟨?_, k3_trans (k3_trans i2 (k3_st ⟨rfl, rfl, by omega, by omega⟩)) (k3_st ⟨rfl, rfl, by omega, by omega⟩)⟩, fun Q hQ => w224_4 ?_⟩
        · rw [TM_24 (by omega), tA]
        · simp only [forall_eq, true_implies, false_implies, not_true_eq_false, not_false_eq_true, and_true, true_and, and_self, isB0, isB1, bI_t0, bI_f0, i10_, i20_, i01_, i02_, i12_, i21_, l10, iN_109, bj, xj, t29, q251, b251, x251, s251]
          refine ⟨_, _, cst, ?_⟩
          simp only [forall_eq, true_implies, false_implies, not_true_eq_false, not_false_eq_true, and_true, true_and, and_self, isB0, isB1, bI_t0, bI_f0, i10_, i20_, i01_, i02_, i12_, i21_, b251, x251, s251, iN_29, show inb (iN (29 + (h * 10 + j))) 2129 from inb_of (by omega) (by decide), ix_of (show 29 + (h * 10 + j) < 2147483648 by omega), s24, iN_step]
          exact hQ)
    ⟨rfl, k3_refl⟩
  generalize hD : dropF (TM M) p h n5 10 = D at *
  have d4 : TM Mn 20 4 = TM M 20 4 := by
    have : M.1 101 0 3 = TM M 20 4 := TW_c (c := 20) (j := 4) (by decide)
    have h3 : Mn.1 101 0 3 = TM Mn 20 4 := TW_c (c := 20) (j := 4) (by decide)
    rw [← this, ← h3, g2 101 0 3 (by omega)]
  have r3 : Mn.1 100 0 26 = bI real := by rw [g2 100 0 26 (by omega)]; exact hr
  have bn : BkM (Mn.1 101 0) s := ⟨hb.1, by rw [g2 101 0 5 (by omega)]; exact hb.2.1, fun i hi => by rw [g2 101 0 _ (by omega)]; exact hb.2.2 i hi⟩
  have kv : K3 Wm M Mn := k3_sub g2 (fun c b j z => Or.inr (Or.inr (Or.inr ⟨z.1, z.2.1, by omega, by omega⟩)))
  by_cases h0 : D.2 ≤ 0
  · have hE : dropE (TM M) p D.2 real = [] := by
      unfold dropE
      rw [if_neg (fun z => absurd h0 (Int32.not_le.mpr z.2))]
    rw [hE]
    refine ⟨Mn, e224 (w224_0 (hV _ (w224_4 ?_))), g1, bn, kv⟩
    simp only [forall_eq, true_implies, false_implies, not_true_eq_false, not_false_eq_true, and_true, true_and, and_self, isB0, isB1, bI_t0, bI_f0, i10_, i20_, i01_, i02_, i12_, i21_, show ((10 : Int32) ≤ iN 10) = True from by decide, h0]
  · obtain ⟨M', w1, w2, w3, w4⟩ := c213 (X := X) (d := d + 1) (x := 2) (y := iN p) (z := D.2) r3 bn
    rw [d4] at w2
    have hE : bkL s (dropE (TM M) p D.2 real) = bkR real s (TM M 20 4, 2, iN p, D.2) := by
      unfold dropE
      cases real with
      | true =>
        rw [if_pos ⟨rfl, Int32.not_le.mp h0⟩]
        rfl
      | false =>
        rw [if_neg (fun z => absurd z.1 (by decide))]
        rfl
    rw [hE]
    refine ⟨M', e224 (w224_0 (hV _ (w224_4 ?_))), w3.trans g1, w2, k3_trans kv (k3_sub w4 Wn_m)⟩
    simp only [forall_eq, true_implies, false_implies, not_true_eq_false, not_false_eq_true, and_true, true_and, and_self, isB0, isB1, bI_t0, bI_f0, i10_, i20_, i01_, i02_, i12_, i21_, show ((10 : Int32) ≤ iN 10) = True from by decide, h0]
    exact ⟨_, w1, rfl⟩
theorem c226_drop {X : Cx} {d n5 n6 n7 B : Nat} {M : Mem} {real : Bool} {s : Bk} {cnt : Int32} (hv : VTn B (TM M) n5 n6 n7) (hr : M.1 100 0 26 = bI real) (hb : BkM (M.1 101 0) s) (hf : TM M 20 2 = 0) : ∀ p : Nat, p ≤ n7 →
    ∃ M', TM M' = (dropA (TM M) n5 real p).1 ∧ BkM (M'.1 101 0) (bkL s (dropA (TM M) n5 real p).2) ∧ K3 Wm M M' ∧ ∀ Q : Option Vl → Mem → Prop, V X (d + 8) 226 132 [some (vR 100 0), some (vI cnt), some (vI (iN p)), none] [] M' Q → V X (d + 8) 226 132 [some (vR 100 0), some (vI cnt), some (vI 0), none] [] M Q
  | 0, _ => ⟨M, rfl, hb, k3_refl, fun _ h => h⟩
  | p + 1, hp => by
    obtain ⟨M1, p1, p2, p3, p4⟩ := c226_drop (X := X) (d := d) (cnt := cnt) hv hr hb hf p (by omega)
    have v1 := dropA_v (real := real) hv (p := p) (by omega)
    obtain ⟨M2, q1, q2, q3, q4⟩ := c224 (X := X) (d := d + 4) (M := M1) (p := p) (real := real) (by rw [p1]; exact v1) (by omega) (by rw [p3 100 0 26 (by simp [Wm])]; exact hr) p2
    rw [p1] at q2 q3
    refine ⟨M2, q2, ?_, k3_trans p3 q4, fun Q hQ => p4 Q (w226_132 ?_)⟩
    · show BkM (M2.1 101 0) (bkL s ((dropA (TM M) n5 real p).2 ++ dropE (dropA (TM M) n5 real p).1 p (dropF (dropA (TM M) n5 real p).1 p (ix ((dropA (TM M) n5 real p).1 25 p)) n5 10).2 real))
      rw [bkL_app]
      exact q3
    · have c7 : M1.1 101 0 231 = iN n7 := by rw [p3 101 0 231 (by simp [Wm])]; exact (vt_m hv).2.2.1
      have c2 : M1.1 101 0 1 = 0 := by
        rw [show M1.1 101 0 1 = TM M1 20 2 from TW_c (c := 20) (j := 2) (by decide), p1, dropA_keep (by decide)]
        exact hf
      have hn7 := hv.2.2.1
      simp only [forall_eq, true_implies, false_implies, not_true_eq_false, not_false_eq_true, and_true, true_and, and_self, isB0, isB1, bI_t0, bI_f0, i10_, i20_, i01_, i02_, i12_, i21_, show inb 231 2129 from inb_l (by decide) (by decide), show ix 231 = 231 from ix_l (by decide), show inb 1 2129 from inb_l (by decide) (by decide), show ix 1 = 1 from ix_l (by decide), c7, c2, nle_ (a := n7) (b := p) (by omega) (by omega) (by omega), iN_step]
      exact ⟨_, q1, hQ⟩
theorem c226 {X : Cx} {d : Nat} {M : Mem} {B n5 n6 n7 : Nat} {L : Lw} {C : Cl} {S : Sk} {real : Bool} {s : Bk} (hL : LawM (M.1 101 0) L) (hLT : LawT L) (hC : ClM (M.1 101 0) C) (hCT : ClT C n5 n6 n7) (hS : SkM (M.1 101 0) S) (hST : SkT S) (hv : VTn B (TM M) n5 n6 n7) (hr : M.1 100 0 26 = bI real) (hb : BkM (M.1 101 0) s) :
    ∃ M', CC X (d + 8) 226 [vR 100 0] M (some (vI (iN (dayS L C S n5 n6 n7 real (TM M)).2.1))) M' ∧ TM M' = (dayS L C S n5 n6 n7 real (TM M)).1 ∧ BkM (M'.1 101 0) (bkL s (dayS L C S n5 n6 n7 real (TM M)).2.2) ∧ K3 Wd M M' := by
  obtain ⟨M1, p2, p3, p4⟩ := c226_sky (X := X) (d := d + 6) (cnt := 0) hST.1 S 0 M (by omega) hS.1 (fun j y s hj => by
    rw [Nat.zero_add]
    exact ⟨(hS.2 j y s hj).1, (hS.2 j y s hj).2.1, (hS.2 j y s hj).2.2.1, (hS.2 j y s hj).2.2.2, hST.2 j y s hj⟩)
  have k1 : K3 Wd M M1 := k3_sub p3 (fun c b j z => Or.inl (Or.inr (Or.inr (Or.inr ⟨z.1, z.2.1, by omega, by omega⟩))))
  have w1 : ∀ k, 2 ≤ k → M1.1 101 0 k = M.1 101 0 k := fun k hk => p3 101 0 k (by omega)
  obtain ⟨M2, q1, q2, q3, q4⟩ := c226_calls (X := X) (d := d) (real := real) hLT hCT.1 C 0 0 B M1 s (by omega) (by rw [w1 _ (by decide)]; exact hC.1) (fun j y p R k e hj => by
    have := hC.2 j y p R k e hj
    rw [Nat.zero_add, w1 _ (by omega), w1 _ (by omega), w1 _ (by omega)]
    exact ⟨this.1, this.2.1, this.2.2.1, fun q hq => by rw [w1 _ (by omega)]; exact this.2.2.2.1 q hq, fun q h1 h2 => by rw [w1 _ (by omega)]; exact this.2.2.2.2 q h1 h2⟩) hCT (hL.kd k1) (by rw [p2]; exact skyS_v hv) (by rw [p3 100 0 26 (by omega)]; exact hr) ⟨hb.1, by rw [w1 _ (by decide)]; exact hb.2.1, fun i hi => by rw [w1 _ (by omega)]; exact hb.2.2 i hi⟩
  rw [p2] at q1 q2 q4
  have hn7 := hv.2.2.1
  have v2 := callsS_v (L := L) (real := real) (C := C) (skyS_v (S := S) hv) hCT
  generalize hcs : callsS L n6 real (skyS (TM M) S) C = cs at *
  have r2 : M2.1 100 0 26 = bI real := by rw [q3 100 0 26 (by simp [Wd, Wm, Wb]), p3 100 0 26 (by omega)]; exact hr
  have v2' : VTn (B + 90 * C.length) (TM M2) n5 n6 n7 := by rw [q1]; exact v2
  have c7 : M2.1 101 0 231 = iN n7 := (vt_m v2').2.2.1
  have i231 : inb 231 2129 := inb_l (by decide) (by decide)
  have x231 : ix 231 = 231 := ix_l (by decide)
  have i1 : inb 1 2129 := inb_l (by decide) (by decide)
  have x1 : ix 1 = 1 := ix_l (by decide)
  have i3 : inb 3 2129 := inb_l (by decide) (by decide)
  have x3 : ix 3 = 3 := ix_l (by decide)
  have eD : dayS L C S n5 n6 n7 real (TM M) = (fun (q : Ld × List Qd) => (up2 q.1 20 4 (q.1 20 4 + 1), cs.2.1, cs.2.2 ++ q.2)) (if cs.1 20 2 = 0 then dropA cs.1 n5 real n7 else (cs.1, [])) := by
    unfold dayS
    rw [hcs]
  rw [eD]
  rw [Nat.zero_add] at q4
  have kl : ∀ {N : Mem} {x : Int32}, K3 Wd N (st N 101 0 3 x) := k3_st (Or.inl (Or.inr (Or.inr (Or.inr ⟨rfl, rfl, by decide, by decide⟩))))
  by_cases hf : cs.1 20 2 = 0
  · rw [if_pos hf]
    obtain ⟨M3, r1, r3, r4, r5⟩ := c226_drop (X := X) (d := d) (M := M2) (real := real) (s := bkL s cs.2.2) (cnt := iN cs.2.1) v2' r2 q2 (by rw [q1]; exact hf) n7 (Nat.le_refl _)
    rw [q1] at r1 r3
    have d4 : M3.1 101 0 3 = (dropA cs.1 n5 real n7).1 20 4 := by rw [← r1]; exact TW_c (c := 20) (j := 4) (by decide)
    have d7 : M3.1 101 0 231 = iN n7 := by rw [r4 101 0 231 (by simp [Wm])]; exact c7
    refine ⟨st M3 101 0 3 ((dropA cs.1 n5 real n7).1 20 4 + 1), e226 (w226_0 (p4 _ (q4 _ (r5 _ (w226_132 ?_))))), ?_, ⟨?_, ?_, fun i hi => ?_⟩, k3_trans (k3_trans (k3_trans k1 q3) (k3_sub r4 (fun c a j z => Or.inl z))) kl⟩
    · simp only [forall_eq, true_implies, false_implies, not_true_eq_false, not_false_eq_true, and_true, true_and, and_self, isB0, isB1, bI_t0, bI_f0, i10_, i20_, i01_, i02_, i12_, i21_, i231, x231, i3, x3, d7, d4, yle_ (a := n7) (b := n7) (by omega) (by omega) (Nat.le_refl _)]
    · rw [TM_20_4, r1]
    · show (bkL s (cs.2.2 ++ (dropA cs.1 n5 real n7).2)).1 ≤ 150
      rw [bkL_app]
      exact r3.1
    · show (st M3 101 0 3 _).1 101 0 5 = iN (bkL s (cs.2.2 ++ (dropA cs.1 n5 real n7).2)).1
      rw [bkL_app, st_ne3 (by omega)]
      exact r3.2.1
    · show (st M3 101 0 3 _).1 101 0 (645 + i) = (bkL s (cs.2.2 ++ (dropA cs.1 n5 real n7).2)).2 i
      rw [bkL_app, st_ne3 (by omega)]
      exact r3.2.2 i hi
  · rw [if_neg hf]
    have d4 : M2.1 101 0 3 = cs.1 20 4 := by rw [← q1]; exact TW_c (c := 20) (j := 4) (by decide)
    have d2 : M2.1 101 0 1 = cs.1 20 2 := by rw [← q1]; exact TW_c (c := 20) (j := 2) (by decide)
    refine ⟨st M2 101 0 3 (cs.1 20 4 + 1), e226 (w226_0 (p4 _ (q4 _ (w226_132 ?_)))), ?_, ⟨?_, ?_, fun i hi => ?_⟩, k3_trans (k3_trans k1 q3) kl⟩
    · by_cases h70 : iN n7 ≤ 0
      · simp only [forall_eq, true_implies, false_implies, not_true_eq_false, not_false_eq_true, and_true, true_and, and_self, isB0, isB1, bI_t0, bI_f0, i10_, i20_, i01_, i02_, i12_, i21_, i231, x231, i3, x3, c7, d4, h70]
      · simp only [forall_eq, true_implies, false_implies, not_true_eq_false, not_false_eq_true, and_true, true_and, and_self, isB0, isB1, bI_t0, bI_f0, i10_, i20_, i01_, i02_, i12_, i21_, i231, x231, i3, x3, i1, x1, c7, d4, h70, d2, hf]
    · rw [TM_20_4, q1]
    · show (bkL s (cs.2.2 ++ [])).1 ≤ 150
      rw [List.append_nil]
      exact q2.1
    · show (st M2 101 0 3 _).1 101 0 5 = iN (bkL s (cs.2.2 ++ [])).1
      rw [List.append_nil, st_ne3 (by omega)]
      exact q2.2.1
    · show (st M2 101 0 3 _).1 101 0 (645 + i) = (bkL s (cs.2.2 ++ [])).2 i
      rw [List.append_nil, st_ne3 (by omega)]
      exact q2.2.2 i hi
