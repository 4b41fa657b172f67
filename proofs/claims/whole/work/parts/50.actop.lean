/-! act, both -/
theorem WldL.same {B B2 : Nat} {M M2 : Mem} {lc : Nat} (h : WldL B M lc) (hb : B ≤ B2) (h1 : M2.1 101 0 = M.1 101 0) (h2 : ∀ c, 20 ≤ c → c < 32 → M2.1 c 0 = M.1 c 0) : WldL B2 M2 lc := by
  obtain ⟨g1, ⟨n5, n6, n7, g2⟩, g3, g4, g5, g6, g7⟩ := h
  have eT : TC M2 0 = TC M 0 := TC_of (fun c q1 q2 => h2 c q1 (by omega))
  have eM : TM M2 = TM M := by
    show TW (M2.1 101 0) = TW (M.1 101 0)
    rw [h1]
  refine ⟨by rw [eT, eM]; exact g1, ⟨n5, n6, n7, by rw [eM]; exact g2.mono hb⟩, by rw [eM, h1]; exact g3, g4, by rw [h2 30 (by decide) (by decide)]; exact g5, by rw [h1]; exact g6, fun j hj => by rw [h2 31 (by decide) (by decide), h1]; exact g7 j hj⟩
theorem ShW.refl {W : Nat → Int32} {lc : Nat} : ShW W W lc := ⟨fun _ _ => rfl, fun _ _ => rfl⟩
theorem WalkR.refl {B B2 : Nat} {M : Mem} {n nx lc : Nat} (hw : WldL B M lc) (hp : PastJ B M n n n nx lc) (hb : B ≤ B2) : WalkR B2 M M := ⟨n, nx, lc, hw.same hb rfl (fun _ _ _ => rfl), hp.mono hb, k3_refl⟩
/-- VTn with a frost told anew -/
theorem VTn.frost {B n5 n6 n7 : Nat} {T : Ld} {x : Int32} (h : VTn B T n5 n6 n7) (hx : x = 0 ∨ x = 1) : VTn B (up2 T 20 2 x) n5 n6 n7 := by
  obtain ⟨h1, h2, h3, h4, h5, h6, h7, h8, h9, h10, h11, h12⟩ := h
  refine ⟨h1, h2, h3, ?_, ?_, ?_, ?_, fun g hg => ?_, fun q hq => ?_, fun q hq1 hq2 g hg => ?_, fun e2 g he2 hg => ?_, fun e2 g he2 hg hg2 => ?_⟩
  · rw [up2_ne (by omega)]; exact h4
  · rw [up2_ne (by omega)]; exact h5
  · rw [up2_ne (by omega)]; exact h6
  · rw [up2_at]; exact hx
  · rw [up2_ne (by omega)]; exact h8 g hg
  · obtain ⟨hm, s, b, c1, c2, c3, c4, c5, d1, d2, d3⟩ := h9 q hq
    exact ⟨hm, s, b, c1, by rw [up2_ne (by omega)]; exact c2, c3, c4, by rw [up2_ne (by omega)]; exact c5, fun g hg => by rw [up2_ne (by omega)]; exact d1 g hg, d2, d3⟩
  · rw [up2_ne (by omega)]; exact h10 q hq1 hq2 g hg
  · rw [up2_ne (by omega)]; exact h11 e2 g he2 hg
  · rw [up2_ne (by omega)]; exact h12 e2 g he2 hg hg2
theorem op104 {X : Cx} {d : Nat} {M : Mem} {B n nx lc : Nat} {w u : Int32} (hB : B < 1073741824) (hw : WldL B M lc) (hp : PastJ B M n n n nx lc) : ∃ (x : Int32) (M1 M2 : Mem), CC X (d + 5) 104 [vR 2 0, vI w, vI u] M (some (vI x)) M1 ∧ CC X (d + 5) 222 [vR 100 0, vI w, vI u] M1 (some (vI x)) M2 ∧ WalkR B M M2 := by
  have hw0 := hw
  obtain ⟨hT, hV, ⟨sk, hs1, hs2⟩, hBk⟩ := hw
  obtain ⟨n5, n6, n7, vm, vc⟩ := VT_n hV hT
  obtain ⟨c5, c6, c7, q5, q6, q7⟩ := vt_c vc
  obtain ⟨m5, m6, m7, -⟩ := vt_m vm
  have t6 : TM M 20 6 = iN n6 := vm.2.2.2.2.1
  rw [t6, ix_of (by omega)] at hs1
  have cc := c105 (X := X) (d := d + 2) (M := M) (w := w) (u := u) q6 c6
  rw [hT] at cc
  by_cases hcan : canS (TM M) n6 w u = true
  · obtain ⟨a1, -, a3, a4, a5, a6, a7, a8, -⟩ := id hp
    obtain ⟨N1, x1, x2, x3, x4, x5, x6, x7⟩ := c8 (X := X) (d := d + 1) (M := M) a1 a3 a6 a8
    have tN1 : TC N1 0 = TC M 0 := TC_k x7 (fun c j h1 h2 => by omega)
    have wN1 : N1.1 101 0 = M.1 101 0 := k3_col x7 (fun _ => by omega)
    have r4 : N1.1 100 0 4 = iN n := by rw [x7 100 0 4 (by omega)]; exact a7
    have K0 : K3 OpP M N1 := k3_sub x7 (Wq_o a3)
    -- the reference's keeping, after class columns P1 changed
    have ref : ∀ (P1 : Nat → Nat → Nat → Prop) (N3 : Mem), K3 P1 N1 N3 → NoPast P1 → (∀ j, ¬ P1 101 0 j) → N3.1 100 0 4 = iN n ∧ N3.1 101 0 = M.1 101 0 := fun P1 N3 k h h2 => ⟨by rw [k 100 0 4 (fun z => (h _ _ _ z).2.2.1 ⟨rfl, rfl, rfl⟩)]; exact r4, by rw [k3_col k h2, wN1]⟩
    have rc : ∀ (N3 : Mem), N3.1 101 0 = M.1 101 0 → CC X (d + 4) 221 [vR 100 0, vI w, vI u] N3 (some (vI (bI true))) N3 := fun N3 h => by
      have := c221 (X := X) (d := d + 1) (M := N3) (w := w) (u := u) (n6 := n6) q6 (by rw [h]; exact m6)
      have e : TM N3 = TM M := by
        show TW (N3.1 101 0) = TW (M.1 101 0)
        rw [h]
      rw [e, hcan] at this
      exact this
    by_cases w0 : w = 0
    · subst w0
      have hu : has u (iN n6) 8 = true := by
        unfold canS at hcan
        rw [if_pos rfl] at hcan
        exact hcan
      obtain ⟨e, rfl, he⟩ := has_lt (k := 8) q6 (by decide) hu
      obtain ⟨N2, y1, y2, y3, y4⟩ := c97 (X := X) (d := d + 1) (M := N1) (a := 0) (e := e) (s := (lc, M.1 31 0)) (by rw [tN1]; exact vc) he ⟨hBk.1, by rw [x7 30 0 0 (by omega)]; exact hBk.2.1, k3_col x7 (fun _ => by omega)⟩
      rw [tN1, hT] at y2 y3
      obtain ⟨g4, gw⟩ := ref (Wv 0) N2 y4 NoPast_v (fun _ => by simp [Wv, Wk])
      obtain ⟨N4, s1, s2, s3, s4, s5, s6⟩ := c211 (X := X) (d := d + 3) (M := N2) a1 g4
      have wN4 : N4.1 101 0 = M.1 101 0 := by rw [k3_col s6 (fun _ => by omega), gw]
      have TN4 : TM N4 = TM M := by
        show TW (N4.1 101 0) = TW (M.1 101 0)
        rw [wN4]
      obtain ⟨N5, t1, t2, t3, t4⟩ := c220 (X := X) (d := d + 1) (M := N4) (e := e) (s := (lc, fun j => M.1 101 0 (645 + j))) (real := true) (by rw [TN4]; exact vm) he s3 (by rw [wN4]; exact hBk.m)
      rw [TN4] at t2 t3
      have KK : K3 OpP M N5 := k3_trans (k3_trans (k3_trans K0 (k3_sub y4 (Wv_o (by decide)))) (k3_sub s6 Wr_o)) (k3_sub t4 Wm_o)
      have c52 : ∀ c a, 20 ≤ c → c < 32 → N5.1 c a = N2.1 c a := fun c a q1 q2 => by rw [k3_col t4 (fun _ => by simp only [Wm]; omega), k3_col s6 (fun _ => by omega)]
      obtain ⟨lc2, l1, l2, l3⟩ := hw0.walk (B2 := B) (es := [(TM M 20 4, 3, iN e, acres (TM M) e)]) KK (by rw [t4 101 0 6 (by simp [Wm]), wN4]) (by rw [TC_of (fun c q1 q2 => c52 c 0 q1 (by omega)), y2]) t2 ⟨n5, n6, n7, swS_v vm hB (by omega) (Nat.le_refl 10)⟩ ⟨y3.1, by rw [c52 30 0 (by decide) (by decide)]; exact y3.2.1, by rw [c52 31 0 (by decide) (by decide)]; exact y3.2.2⟩ t3
      refine ⟨1, N2, N5, e104 (w104_0 ⟨_, _, cc, ?_⟩), e222 (w222_0 ⟨_, _, rc N2 gw, ?_⟩), ⟨_, _, lc2, l2, keep_fin hp hw0 x2 x3 x4 x5 x6 x7 y4 NoPast_v gw s2 s4 s5 s6 t4 NoPast_m l1 l3, KK⟩⟩
      · rw [hcan]
        simp only [forall_eq, true_implies, false_implies, not_true_eq_false, not_false_eq_true, and_true, true_and, and_self, isB0, isB1, bI_t0, bI_f0, i10_, i20_, i01_, i02_, i12_, i21_]
        exact ⟨_, x1, _, y1, rfl⟩
      · simp only [forall_eq, true_implies, false_implies, not_true_eq_false, not_false_eq_true, and_true, true_and, and_self, isB0, isB1, bI_t0, bI_f0, i10_, i20_, i01_, i02_, i12_, i21_]
        exact ⟨_, s1, _, t1, rfl⟩
    · -- one cell of the land alone
      have one : ∀ (c j k : Nat) (x y : Int32), okC c j = true → 20 ≤ c → c < 30 → k < 229 → k ≠ 5 → (∀ W : Nat → Int32, W 6 = M.1 101 0 6 → TW W = TM M → TW (upd W k y) = up2 (TM M) c j x) → VT B (up2 (TM M) c j x) → up2 (TM M) c j x 20 6 = iN n6 → (∃ q : Nat, q < 2 ^ n6 ∧ upd (M.1 101 0) k y 6 = iN q) →
          ∃ N4 : Mem, CC X (d + 4) 211 [vR 100 0] (st N1 c 0 j x) none N4 ∧ N4.1 101 0 = M.1 101 0 ∧ WalkR B M (st N4 101 0 k y) := by
        intro c j k x y hk hc1 hc2 hk1 hk5 hTW hVT h206 hst
        have kc : K3 (Wv 0) N1 (st N1 c 0 j x) := k3_st (Or.inl (Or.inr (Or.inr ⟨rfl, hc1, hc2⟩)))
        obtain ⟨g4, gw⟩ := ref (Wv 0) _ kc NoPast_v (fun _ => by simp [Wv, Wk])
        obtain ⟨N4, s1, s2, s3, s4, s5, s6⟩ := c211 (X := X) (d := d + 3) (M := st N1 c 0 j x) a1 g4
        have wN4 : N4.1 101 0 = M.1 101 0 := by rw [k3_col s6 (fun _ => by omega), gw]
        have kr : K3 (fun c a j => c = 101 ∧ a = 0 ∧ j = k) N4 (st N4 101 0 k y) := k3_st ⟨rfl, rfl, rfl⟩
        have KK : K3 OpP M (st N4 101 0 k y) := k3_trans (k3_trans (k3_trans K0 (k3_sub kc (Wv_o (by decide)))) (k3_sub s6 Wr_o)) (k3_st (OpP.w (Or.inl hk1)))
        have eM : TM (st N4 101 0 k y) = up2 (TM M) c j x := by
          show TW ((st N4 101 0 k y).1 101 0) = _
          rw [w_st]
          exact hTW _ (by rw [wN4]) (by rw [wN4])
        have eC : TC (st N4 101 0 k y) 0 = up2 (TM M) c j x := by
          rw [TC_off (Or.inl (fun _ => rfl)), TC_k s6 (fun c j h1 h2 => by omega), TC_st hk, tN1, hT]
        have hs : ShW (M.1 101 0) ((st N4 101 0 k y).1 101 0) lc := ⟨fun i hi => by rw [st_ne3 (by omega), wN4], fun i hi => by rw [st_ne3 (by omega), wN4]⟩
        refine ⟨N4, s1, wN4, _, _, lc, ⟨eC.trans eM.symm, by rw [eM]; exact hVT, ?_, hBk.1, ?_, ?_, fun i hi => ?_⟩, keep_fin hp hw0 x2 x3 x4 x5 x6 x7 kc NoPast_v gw s2 s4 s5 s6 kr (fun c a j z => by omega) (Nat.le_refl _) hs, KK⟩
        · rw [eM, h206, ix_of (by omega), w_st, wN4]
          exact hst
        · rw [st_ne3 (fun z => absurd z.1 (by decide)), s6 30 0 0 (by omega), st_ne3 (by omega), x7 30 0 0 (by omega)]
          exact hBk.2.1
        · rw [st_ne3 (by omega), wN4]
          exact hBk.2.2.1
        · rw [st_ne3 (fun z => absurd z.1 (by decide)), s6 31 0 i (by omega), st_ne3 (by omega), x7 31 0 i (by omega), hs.2 i hi]
          exact hBk.2.2.2 i hi
      have hb6 : ∀ k y, k ≠ 6 → ∃ q : Nat, q < 2 ^ n6 ∧ upd (M.1 101 0) k y 6 = iN q := fun k y hk => ⟨sk, hs1, by rw [upd_ne (by omega)]; exact hs2⟩
      have hsk8 : sk < 256 := Nat.lt_of_lt_of_le hs1 (Nat.pow_le_pow_right (by decide) q6)
      -- stones
      have stone : ∀ (e : Nat) (x : Int32), e < n6 → x = 1 - TM M 23 e → ∃ N4 : Mem, CC X (d + 4) 211 [vR 100 0] (st N1 23 0 e x) none N4 ∧ N4.1 101 0 = M.1 101 0 ∧ WalkR B M (st N4 101 0 6 (iN (sk ^^^ 2 ^ e))) := by
        intro e x he hx
        obtain ⟨-, bx⟩ := bit_x e (by omega) sk hsk8
        refine one 23 e 6 x _ (by simp [okC]; omega) (by decide) (by decide) (by decide) (by decide) (fun W h6 hW => ?_) ⟨n5, n6, n7, vm.off (Or.inr (Or.inr (Or.inr rfl)))⟩ (by rw [up2_ne (by omega)]; exact t6) ⟨sk ^^^ 2 ^ e, Nat.xor_lt_two_pow hs1 (Nat.pow_lt_pow_right (by decide) he), upd_at⟩
        have := TW_23 (w := W) (j := e) (x := x) (v := iN (sk ^^^ 2 ^ e)) (by omega) (fun i hi => ?_)
        · rw [this, hW]
        · rw [bx i hi, h6, hs2]
          by_cases hie : i = e
          · rw [if_pos hie, if_pos hie, hx, hie]
            have : TM M 23 e = (M.1 101 0 6 >>> iN e) &&& 1 := TW_rd (by simp [okC]; omega)
            rw [this, hs2]
          · rw [if_neg hie, if_neg hie]
      have i6 : inb 6 2129 := inb_l (by decide) (by decide)
      have x6' : ix 6 = 6 := ix_l (by decide)
      have i1 : inb 1 2129 := inb_l (by decide) (by decide)
      have x1' : ix 1 = 1 := ix_l (by decide)
      by_cases w1 : w = 1
      · subst w1
        unfold canS at hcan
        rw [if_neg w0, if_pos rfl, Bool.and_eq_true, decide_eq_true_eq] at hcan
        obtain ⟨hu, hz⟩ := hcan
        obtain ⟨e, rfl, he⟩ := has_lt (k := 8) q6 (by decide) hu
        rw [ix_of (by omega)] at hz
        obtain ⟨N4, s1, wN4, hW⟩ := stone e 1 he (by rw [hz]; rfl)
        have hcan : canS (TM M) n6 1 (iN e) = true := by
          unfold canS
          rw [if_neg w0, if_pos rfl, hu, ix_of (by omega), hz]
          rfl
        refine ⟨1, st N1 23 0 e 1, st N4 101 0 6 (iN (sk ^^^ 2 ^ e)), e104 (w104_0 ⟨_, _, cc, ?_⟩), e222 (w222_0 ⟨_, _, rc _ (by rw [st_ne (fun z => absurd z.1 (by decide)), wN1]), ?_⟩), hW⟩
        · rw [hcan]
          simp only [forall_eq, true_implies, false_implies, not_true_eq_false, not_false_eq_true, and_true, true_and, and_self, isB0, isB1, bI_t0, bI_f0, i10_, i20_, i01_, i02_, i12_, i21_]
          refine ⟨_, x1, ?_⟩
          simp only [forall_eq, true_implies, false_implies, not_true_eq_false, not_false_eq_true, and_true, true_and, and_self, isB0, isB1, bI_t0, bI_f0, i10_, i20_, i01_, i02_, i12_, i21_, show ((2 : Int32) < 1) = False from by decide, show inb (iN e) 8 from inb_of (by omega) (by decide), ix_of (show e < 2147483648 by omega)]
        · simp only [forall_eq, true_implies, false_implies, not_true_eq_false, not_false_eq_true, and_true, true_and, and_self, isB0, isB1, bI_t0, bI_f0, i10_, i20_, i01_, i02_, i12_, i21_]
          refine ⟨_, s1, ?_⟩
          simp only [forall_eq, true_implies, false_implies, not_true_eq_false, not_false_eq_true, and_true, true_and, and_self, isB0, isB1, bI_t0, bI_f0, i10_, i20_, i01_, i02_, i12_, i21_, show ((3 : Int32) ≤ 1) = False from by decide, i6, x6', show N4.1 101 0 6 = iN sk by rw [wN4]; exact hs2, (bit_x e (by omega) sk hsk8).1]
      · by_cases w2 : w = 2
        · subst w2
          unfold canS at hcan
          rw [if_neg w0, if_neg w1, if_pos rfl, Bool.and_eq_true, decide_eq_true_eq] at hcan
          obtain ⟨hu, hz⟩ := hcan
          obtain ⟨e, rfl, he⟩ := has_lt (k := 8) q6 (by decide) hu
          rw [ix_of (by omega)] at hz
          obtain ⟨N4, s1, wN4, hW⟩ := stone e 0 he (by rw [hz]; rfl)
          have hcan : canS (TM M) n6 2 (iN e) = true := by
            unfold canS
            rw [if_neg w0, if_neg w1, if_pos rfl, hu, ix_of (by omega), hz]
            rfl
          refine ⟨1, st N1 23 0 e 0, st N4 101 0 6 (iN (sk ^^^ 2 ^ e)), e104 (w104_0 ⟨_, _, cc, ?_⟩), e222 (w222_0 ⟨_, _, rc _ (by rw [st_ne (fun z => absurd z.1 (by decide)), wN1]), ?_⟩), hW⟩
          · rw [hcan]
            simp only [forall_eq, true_implies, false_implies, not_true_eq_false, not_false_eq_true, and_true, true_and, and_self, isB0, isB1, bI_t0, bI_f0, i10_, i20_, i01_, i02_, i12_, i21_]
            refine ⟨_, x1, ?_⟩
            simp only [forall_eq, true_implies, false_implies, not_true_eq_false, not_false_eq_true, and_true, true_and, and_self, isB0, isB1, bI_t0, bI_f0, i10_, i20_, i01_, i02_, i12_, i21_, show ((2 : Int32) < 2) = False from by decide, show inb (iN e) 8 from inb_of (by omega) (by decide), ix_of (show e < 2147483648 by omega)]
          · simp only [forall_eq, true_implies, false_implies, not_true_eq_false, not_false_eq_true, and_true, true_and, and_self, isB0, isB1, bI_t0, bI_f0, i10_, i20_, i01_, i02_, i12_, i21_]
            refine ⟨_, s1, ?_⟩
            simp only [forall_eq, true_implies, false_implies, not_true_eq_false, not_false_eq_true, and_true, true_and, and_self, isB0, isB1, bI_t0, bI_f0, i10_, i20_, i01_, i02_, i12_, i21_, show ((3 : Int32) ≤ 2) = False from by decide, i6, x6', show N4.1 101 0 6 = iN sk by rw [wN4]; exact hs2, (bit_x e (by omega) sk hsk8).1]
        · by_cases w3 : w = 3
          · subst w3
            obtain ⟨N4, s1, wN4, hW⟩ := one 20 2 1 1 1 (by decide) (by decide) (by decide) (by decide) (by decide) (fun W _ hW => by rw [TW_20_2, hW]) ⟨n5, n6, n7, vm.frost (Or.inr rfl)⟩ (by rw [up2_ne (by omega)]; exact t6) (hb6 1 1 (by decide))
            refine ⟨1, st N1 20 0 2 1, st N4 101 0 1 1, e104 (w104_0 ⟨_, _, cc, ?_⟩), e222 (w222_0 ⟨_, _, rc _ (by rw [st_ne (fun z => absurd z.1 (by decide)), wN1]), ?_⟩), hW⟩
            · rw [hcan]
              simp only [forall_eq, true_implies, false_implies, not_true_eq_false, not_false_eq_true, and_true, true_and, and_self, isB0, isB1, bI_t0, bI_f0, i10_, i20_, i01_, i02_, i12_, i21_]
              refine ⟨_, x1, ?_⟩
              simp only [forall_eq, true_implies, false_implies, not_true_eq_false, not_false_eq_true, and_true, true_and, and_self, isB0, isB1, bI_t0, bI_f0, i10_, i20_, i01_, i02_, i12_, i21_, w0, show ((2 : Int32) < 3) = True from by decide]
            · simp only [forall_eq, true_implies, false_implies, not_true_eq_false, not_false_eq_true, and_true, true_and, and_self, isB0, isB1, bI_t0, bI_f0, i10_, i20_, i01_, i02_, i12_, i21_]
              refine ⟨_, s1, ?_⟩
              simp only [forall_eq, true_implies, false_implies, not_true_eq_false, not_false_eq_true, and_true, true_and, and_self, isB0, isB1, bI_t0, bI_f0, i10_, i20_, i01_, i02_, i12_, i21_, w0, show ((3 : Int32) ≤ 3) = True from by decide, i1, x1', show (4 : Int32) - 3 = 1 from by decide]
          · by_cases w4 : w = 4
            · subst w4
              obtain ⟨N4, s1, wN4, hW⟩ := one 20 2 1 0 0 (by decide) (by decide) (by decide) (by decide) (by decide) (fun W _ hW => by rw [TW_20_2, hW]) ⟨n5, n6, n7, vm.frost (Or.inl rfl)⟩ (by rw [up2_ne (by omega)]; exact t6) (hb6 1 0 (by decide))
              refine ⟨1, st N1 20 0 2 0, st N4 101 0 1 0, e104 (w104_0 ⟨_, _, cc, ?_⟩), e222 (w222_0 ⟨_, _, rc _ (by rw [st_ne (fun z => absurd z.1 (by decide)), wN1]), ?_⟩), hW⟩
              · rw [hcan]
                simp only [forall_eq, true_implies, false_implies, not_true_eq_false, not_false_eq_true, and_true, true_and, and_self, isB0, isB1, bI_t0, bI_f0, i10_, i20_, i01_, i02_, i12_, i21_]
                refine ⟨_, x1, ?_⟩
                simp only [forall_eq, true_implies, false_implies, not_true_eq_false, not_false_eq_true, and_true, true_and, and_self, isB0, isB1, bI_t0, bI_f0, i10_, i20_, i01_, i02_, i12_, i21_, w0, w3, show ((2 : Int32) < 4) = True from by decide]
              · simp only [forall_eq, true_implies, false_implies, not_true_eq_false, not_false_eq_true, and_true, true_and, and_self, isB0, isB1, bI_t0, bI_f0, i10_, i20_, i01_, i02_, i12_, i21_]
                refine ⟨_, s1, ?_⟩
                simp only [forall_eq, true_implies, false_implies, not_true_eq_false, not_false_eq_true, and_true, true_and, and_self, isB0, isB1, bI_t0, bI_f0, i10_, i20_, i01_, i02_, i12_, i21_, w0, show ((3 : Int32) ≤ 4) = True from by decide, i1, x1', show (4 : Int32) - 4 = 0 from by decide]
            · exfalso
              unfold canS at hcan
              rw [if_neg w0, if_neg w1, if_neg w2, if_neg w3, if_neg w4] at hcan
              cases hcan
  · have hcan : canS (TM M) n6 w u = false := by simpa using hcan
    have rc := c221 (X := X) (d := d + 1) (M := M) (w := w) (u := u) (n6 := n6) q6 m6
    refine ⟨0, M, M, e104 (w104_0 ⟨_, _, cc, ?_⟩), e222 (w222_0 ⟨_, _, rc, ?_⟩), WalkR.refl hw0 hp (Nat.le_refl _)⟩
    · rw [hcan]
      simp only [forall_eq, true_implies, false_implies, not_true_eq_false, not_false_eq_true, and_true, true_and, and_self, isB0, isB1, bI_t0, bI_f0, i10_, i20_, i01_, i02_, i12_, i21_]
    · rw [hcan]
      simp only [forall_eq, true_implies, false_implies, not_true_eq_false, not_false_eq_true, and_true, true_and, and_self, isB0, isB1, bI_t0, bI_f0, i10_, i20_, i01_, i02_, i12_, i21_]
