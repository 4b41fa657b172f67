/-! the class passes a day -/
theorem c16_run {X : Cx} {d a b n : Nat} (hn : n ≤ 16) : ∀ (S : Sk) (i : Nat) (M : Mem), i + S.length = n → M.1 50 b 1 = iN n → (∀ (j : Nat) (y : Int32) (s : Nat), S[j]? = some (y, s) → M.1 57 b (i + j) = y ∧ M.1 58 b (i + j) = iN s ∧ s ≤ 11) →
    ∃ M', TC M' a = skyS (TC M a) S ∧ K3 (fun c e _ => c = 20 ∧ e = a) M M' ∧ ∀ Q : Option Vl → Mem → Prop, Q none M' → V X (d + 1) 16 2 [some (vR 50 b), some (vR 20 a), some (vI (iN i))] [] M Q
  | [], i, M, hi, h1, _ => by
    have hi : i = n := hi
    subst hi
    refine ⟨M, rfl, k3_refl, fun Q hQ => w16_2 ?_⟩
    simp only [forall_eq, true_implies, false_implies, not_true_eq_false, not_false_eq_true, and_true, true_and, and_self, isB0, isB1, bI_t0, bI_f0, i10_, i20_, i01_, i02_, i12_, i21_, h1, yle_ (a := i) (b := i) (by omega) (by omega) (Nat.le_refl _)]
    exact hQ
  | (y, s) :: S, i, M, hi, h1, hS => by
    simp only [List.length_cons] at hi
    have h0 := hS 0 y s rfl
    rw [Nat.add_zero] at h0
    obtain ⟨g1, g2, g3⟩ := h0
    have t4 : M.1 20 a 4 = TC M a 20 4 := (TC20 (by decide)).symm
    have hrec : ∀ M1, K3 (fun c e _ => c = 20 ∧ e = a) M M1 → TC M1 a = sky1 (TC M a) y s → ∃ M', TC M' a = skyS (TC M a) ((y, s) :: S) ∧ K3 (fun c e _ => c = 20 ∧ e = a) M M' ∧ ∀ Q : Option Vl → Mem → Prop, Q none M' → V X (d + 1) 16 2 [some (vR 50 b), some (vR 20 a), some (vI (iN (i + 1)))] [] M1 Q := by
      intro M1 k1 e1
      obtain ⟨M', p1, p2, p3⟩ := c16_run (X := X) (d := d) (a := a) (b := b) hn S (i + 1) M1 (by omega) (by rw [k1 50 b 1 (by omega)]; exact h1) (fun j y s hj => by
        rw [show i + 1 + j = i + (j + 1) by omega, k1 57 b _ (by omega), k1 58 b _ (by omega)]
        exact hS (j + 1) y s hj)
      rw [e1] at p1
      exact ⟨M', p1, k3_trans k1 p2, p3⟩
    have f1 : (iN n ≤ iN i) = False := nle_ (by omega) (by omega) (by omega)
    have f2 : (16 ≤ iN i) = False := nle_ (a := 16) (by decide) (by omega) (by omega)
    have f3 : inb (iN i) 16 := inb_of (by omega) (by decide)
    have f4 : ix (iN i) = i := ix_of (by omega)
    by_cases hy : y = TC M a 20 4
    · by_cases hs : s ≤ 9
      · obtain ⟨M', p1, p2, p3⟩ := hrec (st M 20 a 1 (iN s)) (k3_st ⟨rfl, rfl⟩) (by
          unfold sky1
          rw [if_pos hy, if_pos hs, TC_st (by decide)])
        refine ⟨M', p1, p2, fun Q hQ => w16_2 ?_⟩
        simp only [forall_eq, true_implies, false_implies, not_true_eq_false, not_false_eq_true, and_true, true_and, and_self, isB0, isB1, bI_t0, bI_f0, i10_, i20_, i01_, i02_, i12_, i21_, h1, f1, f2, f3, f4, g1, g2, t4, hy, show (9 < iN s) = False from nlt_ (a := 9) (by decide) (by omega) hs, iN_step]
        exact p3 Q hQ
      · by_cases hs2 : s = 10
        · obtain ⟨M', p1, p2, p3⟩ := hrec (st M 20 a 2 1) (k3_st ⟨rfl, rfl⟩) (by
            unfold sky1
            rw [if_pos hy, if_neg hs, if_pos hs2, TC_st (by decide)])
          refine ⟨M', p1, p2, fun Q hQ => w16_2 ?_⟩
          simp only [forall_eq, true_implies, false_implies, not_true_eq_false, not_false_eq_true, and_true, true_and, and_self, isB0, isB1, bI_t0, bI_f0, i10_, i20_, i01_, i02_, i12_, i21_, h1, f1, f2, f3, f4, g1, g2, t4, hy, show (9 < iN s) = True from ylt_ (a := 9) (by decide) (by omega) (by omega), show (iN s = 10) = True from eq_true (by rw [hs2]; rfl), iN_step]
          exact p3 Q hQ
        · obtain ⟨M', p1, p2, p3⟩ := hrec (st M 20 a 2 0) (k3_st ⟨rfl, rfl⟩) (by
            unfold sky1
            rw [if_pos hy, if_neg hs, if_neg hs2, TC_st (by decide)])
          refine ⟨M', p1, p2, fun Q hQ => w16_2 ?_⟩
          simp only [forall_eq, true_implies, false_implies, not_true_eq_false, not_false_eq_true, and_true, true_and, and_self, isB0, isB1, bI_t0, bI_f0, i10_, i20_, i01_, i02_, i12_, i21_, h1, f1, f2, f3, f4, g1, g2, t4, hy, show (9 < iN s) = True from ylt_ (a := 9) (by decide) (by omega) (by omega), show (iN s = 10) = False from neq_ (b := 10) (by omega) (by decide) hs2, iN_step]
          exact p3 Q hQ
    · obtain ⟨M', p1, p2, p3⟩ := hrec M k3_refl (by
        unfold sky1
        rw [if_neg hy])
      refine ⟨M', p1, p2, fun Q hQ => w16_2 ?_⟩
      simp only [forall_eq, true_implies, false_implies, not_true_eq_false, not_false_eq_true, and_true, true_and, and_self, isB0, isB1, bI_t0, bI_f0, i10_, i20_, i01_, i02_, i12_, i21_, h1, f1, f2, f3, f4, g1, t4, hy, iN_step]
      exact p3 Q hQ
theorem c16 {X : Cx} {d : Nat} {M : Mem} {a b : Nat} {S : Sk} (h : SkC M b S) (ht : SkT S) : ∃ M', CC X (d + 1) 16 [vR 50 b, vR 20 a] M none M' ∧ TC M' a = skyS (TC M a) S ∧ K3 (fun c e _ => c = 20 ∧ e = a) M M' := by
  obtain ⟨M', p1, p2, p3⟩ := c16_run (X := X) (d := d) (a := a) (b := b) ht.1 S 0 M (by omega) h.1 (fun j y s hj => by
    rw [Nat.zero_add]
    exact ⟨(h.2 j y s hj).1, (h.2 j y s hj).2, ht.2 j y s hj⟩)
  exact ⟨M', e16 (w16_0 (p3 _ ⟨rfl, rfl⟩)), p1, p2⟩
theorem c96 {X : Cx} {d : Nat} {M : Mem} {a B n5 n6 n7 p : Nat} {s : Bk} {real : Bool} (hv : VTn B (TC M a) n5 n6 n7) (hp : p < n7) (hr : M.1 11 a 3 = bI (!real)) (hb : BkC M a s) : ∃ M', CC X (d + 3) 96 [vR 11 a, vI (iN p)] M none M' ∧ TC M' a = (dropF (TC M a) p (ix (TC M a 25 p)) n5 10).1 ∧ BkC M' a (bkL s (dropE (TC M a) p (dropF (TC M a) p (ix (TC M a 25 p)) n5 10).2 real)) ∧ K3 (Wv a) M M' := by
  obtain ⟨c5, c6, c7, q5, q6, q7⟩ := vt_c hv
  obtain ⟨h, sz, bb, h1, h2, -⟩ := id hv.2.2.2.2.2.2.2.2.1 p hp
  have m25 : M.1 25 a p = iN h := by rw [← TC_rd (M := M) (a := a) (c := 25) (j := p) (by simp [okC]; omega)]; exact h2
  rw [h2, ix_of (by omega)]
  have cp := c57 (X := X) (d := d + 1) (M := M) (a := a) (v := iN p)
  rw [c7, show has (iN p) (iN n7) 12 = true from has_of hp q7 (by decide)] at cp
  have ce := c56 (X := X) (d := d + 1) (M := M) (a := a) (v := iN h)
  rw [c6, show has (iN h) (iN n6) 8 = true from has_of h1 q6 (by decide)] at ce
  obtain ⟨Mn, ⟨g1, g2⟩, hV⟩ := for_fwd (n := 10) (M := M)
    (I := fun j Mj => TC Mj a = (dropF (TC M a) p h n5 j).1 ∧ K3 (fun c b _ => b = a ∧ (c = 22 ∨ c = 24 ∨ c = 29)) M Mj)
    (St := fun j Mj Q => V X (d + 3) 96 42 [some (vR 11 a), some (vI (iN p)), some (vI (iN h)), some (vI (dropF (TC M a) p h n5 j).2), some (vI (iN j)), none] [] Mj Q)
    (by
      rintro j Mj hj ⟨i1, i2⟩
      have t29 : Mj.1 29 a (p * 10 + j) = (dropF (TC M a) p h n5 j).1 29 (p * 10 + j) := by rw [← i1]; exact (TC_rd (okT29 (by omega) hj)).symm
      have t24 : Mj.1 24 a (h * 10 + j) = (dropF (TC M a) p h n5 j).1 24 (h * 10 + j) := by rw [← i1]; exact (TC_rd (okT24 (by omega) hj)).symm
      have t23 : Mj.1 23 a h = TC M a 23 h := by rw [i2 23 a h (by omega)]; exact (TC_rd (by simp [okC]; omega)).symm
      have l10 : (10 ≤ iN j) = False := nle_ (a := 10) (by decide) (by omega) hj
      have bj : inb (iN (p * 10 + j)) 120 := inb_of (by omega) (by decide)
      have xj : ix (iN (p * 10 + j)) = p * 10 + j := ix_of (by omega)
      have bh : inb (iN h) 8 := inb_of (by omega) (by decide)
      have xh : ix (iN h) = h := ix_of (by omega)
      have h5 : Mj.1 20 a 5 = iN n5 := by rw [i2 20 a 5 (by omega)]; exact c5
      generalize hD : dropF (TC M a) p h n5 j = D at *
      have eD : dropF (TC M a) p h n5 (j + 1) = (if TC M a 23 h = 1 then (if j < n5 then up2 (up2 D.1 29 (p * 10 + j) (D.1 29 (p * 10 + j) - D.1 29 (p * 10 + j) / 2)) 22 j (lsr 9999 (D.1 22 j + D.1 29 (p * 10 + j) / 2)) else up2 D.1 29 (p * 10 + j) (D.1 29 (p * 10 + j) - D.1 29 (p * 10 + j) / 2)) else up2 (up2 D.1 29 (p * 10 + j) (D.1 29 (p * 10 + j) - D.1 29 (p * 10 + j) / 2)) 24 (h * 10 + j) (D.1 24 (h * 10 + j) + D.1 29 (p * 10 + j) / 2), D.2 + D.1 29 (p * 10 + j) / 2) := by
        rw [← hD]
        rfl
      rw [eD]
      have tA : TC (st Mj 29 a (p * 10 + j) (D.1 29 (p * 10 + j) - D.1 29 (p * 10 + j) / 2)) a = up2 D.1 29 (p * 10 + j) (D.1 29 (p * 10 + j) - D.1 29 (p * 10 + j) / 2) := by rw [TC_st (okT29 (by omega) hj), i1]
      by_cases hst : TC M a 23 h = 1
      · rw [if_pos hst]
        obtain ⟨M1, p1, p2, p3⟩ := c70 (X := X) (d := d) (M := st Mj 29 a (p * 10 + j) (D.1 29 (p * 10 + j) - D.1 29 (p * 10 + j) / 2)) (a := a) (f := j) (x := D.1 29 (p * 10 + j) / 2) q5 (by rw [st_ne3 (fun z => absurd z.1 (by decide))]; exact h5) hj
        rw [tA, up2_ne (c' := 22) (by omega)] at p2
        refine ⟨M1, ⟨p2, k3_trans (k3_trans i2 (k3_st ⟨rfl, Or.inr (Or.inr rfl)⟩)) (k3_sub p3 (fun c b j z => ⟨z.1, Or.inl z.2⟩))⟩, fun Q hQ => w96_42 ?_⟩
        simp only [forall_eq, true_implies, false_implies, not_true_eq_false, not_false_eq_true, and_true, true_and, and_self, isB0, isB1, bI_t0, bI_f0, i10_, i20_, i01_, i02_, i12_, i21_, l10, iN_10, bj, xj, t29, bh, xh, st_rd, Nat.reduceEqDiff, false_and, if_false, t23, hst, iN_step]
        exact ⟨_, p1, hQ⟩
      · rw [if_neg hst]
        refine ⟨st (st Mj 29 a (p * 10 + j) (D.1 29 (p * 10 + j) - D.1 29 (p * 10 + j) / 2)) 24 a (h * 10 + j) (D.1 24 (h * 10 + j) + D.1 29 (p * 10 + j) / 2), ⟨?_, k3_trans (k3_trans i2 (k3_st ⟨rfl, Or.inr (Or.inr rfl)⟩)) (k3_st ⟨rfl, Or.inr (Or.inl rfl)⟩)⟩, fun Q hQ => w96_42 ?_⟩
        · rw [TC_st (okT24 (by omega) hj), tA]
        · simp only [forall_eq, true_implies, false_implies, not_true_eq_false, not_false_eq_true, and_true, true_and, and_self, isB0, isB1, bI_t0, bI_f0, i10_, i20_, i01_, i02_, i12_, i21_, l10, iN_10, bj, xj, t29, bh, xh, st_rd, Nat.reduceEqDiff, false_and, if_false, t23, hst, show inb (iN (h * 10 + j)) 80 from inb_of (by omega) (by decide), ix_of (show h * 10 + j < 2147483648 by omega), t24, iN_step]
          exact hQ)
    ⟨rfl, k3_refl⟩
  generalize hD : dropF (TC M a) p h n5 10 = D at *
  have d4 : Mn.1 20 a 4 = TC M a 20 4 := by rw [g2 20 a 4 (by omega)]; exact (TC20 (by decide)).symm
  have r3 : Mn.1 11 a 3 = bI (!real) := by rw [g2 11 a 3 (by omega)]; exact hr
  have bn : BkC Mn a s := ⟨hb.1, by rw [g2 30 a 0 (by omega)]; exact hb.2.1, by rw [k3_col g2 (fun _ => by omega)]; exact hb.2.2⟩
  have kv : K3 (Wv a) M Mn := k3_sub g2 (fun c b j z => Or.inl (Or.inr (Or.inr ⟨z.1, by omega, by omega⟩)))
  have enter : ∀ Q : Option Vl → Mem → Prop, ((D.2 ≤ 0 → Q none Mn) ∧ (¬ D.2 ≤ 0 → (¬ bI (!real) = 0 → Q none Mn) ∧ (bI (!real) = 0 → ∃ (M1 : Mem), CC X (d + 2) 0 [vR 30 a, vI (TC M a 20 4), vI 2, vI (iN p), vI D.2] Mn none M1 ∧ Q none M1))) → V X (d + 3) 96 0 [some (vR 11 a), some (vI (iN p)), none, none, none, none] [] M Q := by
    intro Q hQ
    refine w96_0 ⟨_, _, cp, ?_⟩
    simp only [forall_eq, true_implies, false_implies, not_true_eq_false, not_false_eq_true, and_true, true_and, and_self, isB0, isB1, bI_t0, bI_f0, i10_, i20_, i01_, i02_, i12_, i21_, show inb (iN p) 12 from inb_of (by omega) (by decide), ix_of (show p < 2147483648 by omega), m25]
    refine ⟨_, _, ce, ?_⟩
    simp only [forall_eq, true_implies, false_implies, not_true_eq_false, not_false_eq_true, and_true, true_and, and_self, isB0, isB1, bI_t0, bI_f0, i10_, i20_, i01_, i02_, i12_, i21_]
    refine hV Q (w96_42 ?_)
    simp only [forall_eq, true_implies, false_implies, not_true_eq_false, not_false_eq_true, and_true, true_and, and_self, isB0, isB1, bI_t0, bI_f0, i10_, i20_, i01_, i02_, i12_, i21_, show ((10 : Int32) ≤ iN 10) = True from by decide, d4, r3]
    exact hQ
  by_cases h0 : D.2 ≤ 0
  · have hE : dropE (TC M a) p D.2 real = [] := by
      unfold dropE
      rw [if_neg (fun z => absurd h0 (Int32.not_le.mpr z.2))]
    rw [hE]
    exact ⟨Mn, e96 (enter _ ⟨fun _ => ⟨rfl, rfl⟩, fun z => absurd h0 z⟩), g1, bn, kv⟩
  · cases real with
    | false =>
      have hE : dropE (TC M a) p D.2 false = [] := by
        unfold dropE
        rw [if_neg (fun z => absurd z.1 (by decide))]
      rw [hE]
      exact ⟨Mn, e96 (enter _ ⟨fun z => absurd z h0, fun _ => ⟨fun _ => ⟨rfl, rfl⟩, fun z => absurd z (by decide)⟩⟩), g1, bn, kv⟩
    | true =>
      have hE : dropE (TC M a) p D.2 true = [(TC M a 20 4, 2, iN p, D.2)] := by
        unfold dropE
        rw [if_pos ⟨rfl, Int32.not_le.mp h0⟩]
      rw [hE]
      obtain ⟨M', w1, w2, w3⟩ := c0 (X := X) (d := d + 1) (x := TC M a 20 4) (y := 2) (z := iN p) (u := D.2) bn
      exact ⟨M', e96 (enter _ ⟨fun z => absurd z h0, fun _ => ⟨fun z => absurd rfl z, fun _ => ⟨M', w1, rfl, rfl⟩⟩⟩), (TC_k w3 (fun c j h1 h2 => by omega)).trans g1, w2, k3_trans kv (k3_sub w3 (fun c b j z => Or.inr (Or.inr z)))⟩
theorem ClC.kw {M M2 : Mem} {b : Nat} {C : Cl} {P : Nat → Nat → Nat → Prop} (h : ClC M b C) (k : K3 P M M2) (hp : ∀ c e j, P c e j → ¬ (50 ≤ c ∧ c < 60)) : ClC M2 b C := ⟨by rw [k 50 b 0 (fun z => hp _ _ _ z (by omega))]; exact h.1, fun i y p R kk e hi => by
  rw [k 53 b i (fun z => hp _ _ _ z (by omega)), k 54 b i (fun z => hp _ _ _ z (by omega)), k 55 b i (fun z => hp _ _ _ z (by omega)), k 56 b i (fun z => hp _ _ _ z (by omega))]
  exact h.2 i y p R kk e hi⟩
theorem Wv_n {a : Nat} : ∀ c e j, Wv a c e j → ¬ (50 ≤ c ∧ c < 60) := by
  intro c e j h
  simp only [Wv, Wk] at h
  omega
theorem Wv_l {a : Nat} : ∀ c b j, Wv a c b j → c ≠ 40 ∧ c ≠ 42 ∧ c ≠ 43 ∧ c ≠ 44 ∧ c ≠ 45 ∧ c ≠ 46 := by
  intro c b j h
  simp only [Wv, Wk] at h
  omega
theorem c95_calls {X : Cx} {d a n n5 n6 n7 : Nat} {L : Lw} {real : Bool} (hLT : LawT L) (hn : n ≤ 16) : ∀ (C : Cl) (i cnt B : Nat) (M : Mem) (s : Bk), i + C.length = n → M.1 50 0 0 = iN n → (∀ (j : Nat) (y : Int32) (p R k e : Nat), C[j]? = some (y, p, R, k, e) → M.1 53 0 (i + j) = y ∧ M.1 54 0 (i + j) = iN p ∧ M.1 55 0 (i + j) = iN R ∧ M.1 56 0 (i + j) = iN e) → ClT C n5 n6 n7 → LawC M 0 L → VTn B (TC M a) n5 n6 n7 → M.1 11 a 3 = bI (!real) → BkC M a s →
    ∃ M', TC M' a = (callsS L n6 real (TC M a) C).1 ∧ BkC M' a (bkL s (callsS L n6 real (TC M a) C).2.2) ∧ K3 (Wv a) M M' ∧ ∀ Q : Option Vl → Mem → Prop, V X (d + 7) 95 94 [some (vR 11 a), some (vI (iN (cnt + (callsS L n6 real (TC M a) C).2.1))), some (vI 0)] [] M' Q → V X (d + 7) 95 15 [some (vR 11 a), some (vI (iN cnt)), some (vI (iN i))] [] M Q
  | [], i, cnt, B, M, s, hi, h0, _, _, _, _, _, hb => by
    have hi : i = n := hi
    subst hi
    refine ⟨M, rfl, hb, k3_refl, fun Q hQ => w95_15 ?_⟩
    simp only [forall_eq, true_implies, false_implies, not_true_eq_false, not_false_eq_true, and_true, true_and, and_self, isB0, isB1, bI_t0, bI_f0, i10_, i20_, i01_, i02_, i12_, i21_, h0, yle_ (a := i) (b := i) (by omega) (by omega) (Nat.le_refl _)]
    exact hQ
  | (y, p, R, k, e) :: C, i, cnt, B, M, s, hi, h0, hC, hT, hL, hv, hr, hb => by
    simp only [List.length_cons] at hi
    have hrT : ClT C n5 n6 n7 := ⟨by have := hT.1; simp only [List.length_cons] at this; omega, fun i y p R k e hi => hT.2 (i + 1) y p R k e hi⟩
    obtain ⟨d1, d2, d3, d4, d5, d6, d7⟩ := hT.2 0 y p R k e rfl
    have g0 := hC 0 y p R k e rfl
    rw [Nat.add_zero] at g0
    obtain ⟨g1, g2, g3, g4⟩ := g0
    have t4 : M.1 20 a 4 = TC M a 20 4 := (TC20 (by decide)).symm
    have f1 : (iN n ≤ iN i) = False := nle_ (by omega) (by omega) (by omega)
    have f2 : (16 ≤ iN i) = False := nle_ (a := 16) (by decide) (by omega) (by omega)
    have f3 : inb (iN i) 16 := inb_of (by omega) (by decide)
    have f4 : ix (iN i) = i := ix_of (by omega)
    by_cases hy : y = TC M a 20 4
    · obtain ⟨M1, p1, p2, -, p4, p5⟩ := c90 (X := X) (d := d) (k := k) hL hLT hv d1 d2 hr d3 d4 d5 d6 d7 hb
      have hvis := visitS_v (L := L) (real := real) hv d1 d2 d7
      obtain ⟨M', q1, q2, q3, q4⟩ := c95_calls (X := X) (d := d) (a := a) hLT hn C (i + 1) (cnt + 1) (B + 90) M1 _ (by omega) (by rw [p5 50 0 0 (by simp [Wv, Wk])]; exact h0) (fun j y p R k e hj => by
        rw [show i + 1 + j = i + (j + 1) by omega, p5 53 0 _ (by simp [Wv, Wk]), p5 54 0 _ (by simp [Wv, Wk]), p5 55 0 _ (by simp [Wv, Wk]), p5 56 0 _ (by simp [Wv, Wk])]
        exact hC (j + 1) y p R k e hj) hrT (hL.kw (a := a) p5 Wv_l) (by rw [p2]; exact hvis.1) (by rw [p5 11 a 3 (by simp [Wv, Wk])]; exact hr) p4
      rw [p2] at q1 q2 q4
      have es : callsS L n6 real (TC M a) ((y, p, R, k, e) :: C) = ((callsS L n6 real (visitS L (TC M a) n6 p (digs R k) e real).1 C).1, (callsS L n6 real (visitS L (TC M a) n6 p (digs R k) e real).1 C).2.1 + 1, visE (TC M a) p (visitS L (TC M a) n6 p (digs R k) e real) real ++ (callsS L n6 real (visitS L (TC M a) n6 p (digs R k) e real).1 C).2.2) := if_pos hy
      rw [es]
      refine ⟨M', q1, by rw [bkL_app]; exact q2, k3_trans p5 q3, fun Q hQ => w95_15 ?_⟩
      simp only [forall_eq, true_implies, false_implies, not_true_eq_false, not_false_eq_true, and_true, true_and, and_self, isB0, isB1, bI_t0, bI_f0, i10_, i20_, i01_, i02_, i12_, i21_, h0, f1, f2, f3, f4, g1, g2, g3, g4, t4, hy, iN_step]
      refine ⟨_, _, p1, q4 Q ?_⟩
      rw [show cnt + 1 + (callsS L n6 real (visitS L (TC M a) n6 p (digs R k) e real).1 C).2.1 = cnt + ((callsS L n6 real (visitS L (TC M a) n6 p (digs R k) e real).1 C).2.1 + 1) by omega]
      exact hQ
    · have es : callsS L n6 real (TC M a) ((y, p, R, k, e) :: C) = callsS L n6 real (TC M a) C := if_neg hy
      obtain ⟨M', q1, q2, q3, q4⟩ := c95_calls (X := X) (d := d) (a := a) hLT hn C (i + 1) cnt B M s (by omega) h0 (fun j y p R k e hj => by
        rw [show i + 1 + j = i + (j + 1) by omega]
        exact hC (j + 1) y p R k e hj) hrT hL hv hr hb
      rw [es]
      refine ⟨M', q1, q2, q3, fun Q hQ => w95_15 ?_⟩
      simp only [forall_eq, true_implies, false_implies, not_true_eq_false, not_false_eq_true, and_true, true_and, and_self, isB0, isB1, bI_t0, bI_f0, i10_, i20_, i01_, i02_, i12_, i21_, h0, f1, f2, f3, f4, g1, t4, hy, iN_step]
      exact q4 Q hQ
theorem dropA_keep {T : Ld} {n5 : Nat} {real : Bool} {c i : Nat} (h : c ≠ 22 ∧ c ≠ 24 ∧ c ≠ 29) : ∀ {p : Nat}, (dropA T n5 real p).1 c i = T c i
  | 0 => rfl
  | p + 1 => by
    show (dropF (dropA T n5 real p).1 p (ix ((dropA T n5 real p).1 25 p)) n5 10).1 c i = _
    rw [dropF_keep (Or.inl h), dropA_keep h]
theorem c95_drop {X : Cx} {d a n5 n6 n7 B : Nat} {M : Mem} {real : Bool} {s : Bk} {cnt : Int32} (hv : VTn B (TC M a) n5 n6 n7) (hr : M.1 11 a 3 = bI (!real)) (hb : BkC M a s) (hf : TC M a 20 2 = 0) : ∀ p : Nat, p ≤ n7 →
    ∃ M', TC M' a = (dropA (TC M a) n5 real p).1 ∧ BkC M' a (bkL s (dropA (TC M a) n5 real p).2) ∧ K3 (Wv a) M M' ∧ ∀ Q : Option Vl → Mem → Prop, V X (d + 7) 95 94 [some (vR 11 a), some (vI cnt), some (vI (iN p))] [] M' Q → V X (d + 7) 95 94 [some (vR 11 a), some (vI cnt), some (vI 0)] [] M Q
  | 0, _ => ⟨M, rfl, hb, k3_refl, fun _ h => h⟩
  | p + 1, hp => by
    obtain ⟨M1, p1, p2, p3, p4⟩ := c95_drop (X := X) (d := d) (cnt := cnt) hv hr hb hf p (by omega)
    have v1 := dropA_v (real := real) hv (p := p) (by omega)
    obtain ⟨M2, q1, q2, q3, q4⟩ := c96 (X := X) (d := d + 3) (M := M1) (a := a) (p := p) (real := real) (by rw [p1]; exact v1) (by omega) (by rw [p3 11 a 3 (by simp [Wv, Wk])]; exact hr) p2
    rw [p1] at q2 q3
    refine ⟨M2, q2, ?_, k3_trans p3 q4, fun Q hQ => p4 Q (w95_94 ?_)⟩
    · show BkC M2 a (bkL s ((dropA (TC M a) n5 real p).2 ++ dropE (dropA (TC M a) n5 real p).1 p (dropF (dropA (TC M a) n5 real p).1 p (ix ((dropA (TC M a) n5 real p).1 25 p)) n5 10).2 real))
      rw [bkL_app]
      exact q3
    · have c7 : M1.1 20 a 7 = iN n7 := by
        rw [← TC20 (M := M1) (a := a) (by decide), p1, dropA_keep (by decide)]
        exact hv.2.2.2.2.2.1
      have c2 : M1.1 20 a 2 = 0 := by
        rw [← TC20 (M := M1) (a := a) (by decide), p1, dropA_keep (by decide)]
        exact hf
      have hn7 := hv.2.2.1
      simp only [forall_eq, true_implies, false_implies, not_true_eq_false, not_false_eq_true, and_true, true_and, and_self, isB0, isB1, bI_t0, bI_f0, i10_, i20_, i01_, i02_, i12_, i21_, c7, c2, nle_ (a := n7) (b := p) (by omega) (by omega) (by omega), iN_step]
      exact ⟨_, q1, hQ⟩
theorem c95 {X : Cx} {d : Nat} {M : Mem} {a B n5 n6 n7 : Nat} {L : Lw} {C : Cl} {S : Sk} {real : Bool} {s : Bk} (hL : LawC M 0 L) (hLT : LawT L) (hC : ClC M 0 C) (hCT : ClT C n5 n6 n7) (hS : SkC M 0 S) (hST : SkT S) (hv : VTn B (TC M a) n5 n6 n7) (hr : M.1 11 a 3 = bI (!real)) (hb : BkC M a s) :
    ∃ M', CC X (d + 7) 95 [vR 11 a] M (some (vI (iN (dayS L C S n5 n6 n7 real (TC M a)).2.1))) M' ∧ TC M' a = (dayS L C S n5 n6 n7 real (TC M a)).1 ∧ BkC M' a (bkL s (dayS L C S n5 n6 n7 real (TC M a)).2.2) ∧ K3 (Wv a) M M' := by
  obtain ⟨M1, p1, p2, p3⟩ := c16 (X := X) (d := d + 5) (M := M) (a := a) hS hST
  have k1 : K3 (Wv a) M M1 := k3_sub p3 (fun c b j z => Or.inl (Or.inr (Or.inr ⟨z.2, by omega, by omega⟩)))
  obtain ⟨M2, q1, q2, q3, q4⟩ := c95_calls (X := X) (d := d) (a := a) (real := real) hLT hCT.1 C 0 0 B M1 s (by omega) (by rw [p3 50 0 0 (by omega)]; exact hC.1) (fun j y p R k e hj => by
    rw [Nat.zero_add, p3 53 0 _ (by omega), p3 54 0 _ (by omega), p3 55 0 _ (by omega), p3 56 0 _ (by omega)]
    exact hC.2 j y p R k e hj) hCT (hL.kw (a := a) k1 Wv_l) (by rw [p2]; exact skyS_v hv) (by rw [p3 11 a 3 (by omega)]; exact hr) ⟨hb.1, by rw [p3 30 a 0 (by omega)]; exact hb.2.1, by rw [k3_col p3 (fun _ => by omega)]; exact hb.2.2⟩
  rw [p2] at q1 q2 q4
  have hn7 := hv.2.2.1
  have v2 := callsS_v (L := L) (real := real) (C := C) (skyS_v (S := S) hv) hCT
  generalize hcs : callsS L n6 real (skyS (TC M a) S) C = cs at *
  have r2 : M2.1 11 a 3 = bI (!real) := by rw [q3 11 a 3 (by simp [Wv, Wk]), p3 11 a 3 (by omega)]; exact hr
  have v2' : VTn (B + 90 * C.length) (TC M2 a) n5 n6 n7 := by rw [q1]; exact v2
  have c7 : M2.1 20 a 7 = iN n7 := (vt_c v2').2.2.1
  have eD : dayS L C S n5 n6 n7 real (TC M a) = (fun (q : Ld × List Qd) => (up2 q.1 20 4 (q.1 20 4 + 1), cs.2.1, cs.2.2 ++ q.2)) (if cs.1 20 2 = 0 then dropA cs.1 n5 real n7 else (cs.1, [])) := by
    unfold dayS
    rw [hcs]
  rw [eD]
  rw [Nat.zero_add] at q4
  by_cases hf : cs.1 20 2 = 0
  · rw [if_pos hf]
    obtain ⟨M3, r1, r3, r4, r5⟩ := c95_drop (X := X) (d := d) (M := M2) (a := a) (real := real) (s := bkL s cs.2.2) (cnt := iN cs.2.1) v2' r2 q2 (by rw [q1]; exact hf) n7 (Nat.le_refl _)
    rw [q1] at r1 r3
    have d4 : M3.1 20 a 4 = (dropA cs.1 n5 real n7).1 20 4 := by rw [← r1]; exact (TC20 (by decide)).symm
    have d7 : M3.1 20 a 7 = iN n7 := by
      rw [← TC20 (M := M3) (a := a) (by decide), r1, dropA_keep (by decide), ← q1, TC20 (by decide)]
      exact c7
    refine ⟨st M3 20 a 4 ((dropA cs.1 n5 real n7).1 20 4 + 1), e95 (w95_0 ⟨_, p1, q4 _ (r5 _ (w95_94 ?_))⟩), ?_, ⟨?_, ?_, ?_⟩, k3_trans (k3_trans (k3_trans k1 q3) r4) (k3_st (Or.inl (Or.inr (Or.inr ⟨rfl, by decide, by decide⟩))))⟩
    · simp only [forall_eq, true_implies, false_implies, not_true_eq_false, not_false_eq_true, and_true, true_and, and_self, isB0, isB1, bI_t0, bI_f0, i10_, i20_, i01_, i02_, i12_, i21_, d7, d4, yle_ (a := n7) (b := n7) (by omega) (by omega) (Nat.le_refl _)]
    · rw [TC_st (by decide), r1]
    · show (bkL s (cs.2.2 ++ (dropA cs.1 n5 real n7).2)).1 ≤ 150
      rw [bkL_app]
      exact r3.1
    · show (st M3 20 a 4 _).1 30 a 0 = iN (bkL s (cs.2.2 ++ (dropA cs.1 n5 real n7).2)).1
      rw [bkL_app, st_ne3 (fun z => absurd z.1 (by decide))]
      exact r3.2.1
    · show (st M3 20 a 4 _).1 31 a = (bkL s (cs.2.2 ++ (dropA cs.1 n5 real n7).2)).2
      rw [bkL_app, st_ne (fun z => absurd z.1 (by decide))]
      exact r3.2.2
  · rw [if_neg hf]
    have d4 : M2.1 20 a 4 = cs.1 20 4 := by rw [← q1]; exact (TC20 (by decide)).symm
    have d2 : M2.1 20 a 2 = cs.1 20 2 := by rw [← q1]; exact (TC20 (by decide)).symm
    refine ⟨st M2 20 a 4 (cs.1 20 4 + 1), e95 (w95_0 ⟨_, p1, q4 _ (w95_94 ?_)⟩), ?_, ⟨?_, ?_, ?_⟩, k3_trans (k3_trans k1 q3) (k3_st (Or.inl (Or.inr (Or.inr ⟨rfl, by decide, by decide⟩))))⟩
    · by_cases h70 : iN n7 ≤ 0
      · simp only [forall_eq, true_implies, false_implies, not_true_eq_false, not_false_eq_true, and_true, true_and, and_self, isB0, isB1, bI_t0, bI_f0, i10_, i20_, i01_, i02_, i12_, i21_, c7, d4, h70]
      · simp only [forall_eq, true_implies, false_implies, not_true_eq_false, not_false_eq_true, and_true, true_and, and_self, isB0, isB1, bI_t0, bI_f0, i10_, i20_, i01_, i02_, i12_, i21_, c7, d4, h70, d2, hf]
    · rw [TC_st (by decide), q1]
    · show (bkL s (cs.2.2 ++ [])).1 ≤ 150
      rw [List.append_nil]
      exact q2.1
    · show (st M2 20 a 4 _).1 30 a 0 = iN (bkL s (cs.2.2 ++ [])).1
      rw [List.append_nil, st_ne3 (fun z => absurd z.1 (by decide))]
      exact q2.2.1
    · show (st M2 20 a 4 _).1 31 a = (bkL s (cs.2.2 ++ [])).2
      rw [List.append_nil, st_ne (fun z => absurd z.1 (by decide))]
      exact q2.2.2
