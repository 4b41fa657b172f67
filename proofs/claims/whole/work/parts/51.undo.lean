/-! undo, both -/
theorem c212_copy {X : Cx} {d : Nat} {M : Mem} {m : Nat} (hm : m < 6) (h : M.1 100 0 4 = iN m) : ∃ M', (∀ k, k < 229 → M'.1 101 0 k = M.1 103 0 (229 * m + k)) ∧ K3 (fun c a j => c = 101 ∧ a = 0 ∧ j < 229) M M' ∧ ∀ Q : Option Vl → Mem → Prop, Q (some (vI 1)) M' → V X (d + 1) 212 21 [some (vR 100 0), some (vI 0)] [] M Q := by
  obtain ⟨M2, ⟨i1, i3⟩, hV⟩ := for_fwd (n := 229) (M := M)
    (I := fun t Mt => (∀ k, k < t → Mt.1 101 0 k = M.1 103 0 (229 * m + k)) ∧ K3 (fun c a j => c = 101 ∧ a = 0 ∧ j < 229) M Mt)
    (St := fun t Mt Q => V X (d + 1) 212 21 [some (vR 100 0), some (vI (iN t))] [] Mt Q)
    (by
      rintro t Mt ht ⟨g1, g3⟩
      have e1 : 229 * iN m + iN t = iN (229 * m + t) := by simp only [iN_lit, iN_mul, iN_add]
      refine ⟨st Mt 101 0 t (M.1 103 0 (229 * m + t)), ⟨fun k hk => ?_, k3_trans g3 (k3_st ⟨rfl, rfl, ht⟩)⟩, fun Q hQ => w212_21 ?_⟩
      · by_cases hkt : k = t
        · subst hkt
          rw [st_at]
        · rw [st_ne3 (by omega)]
          exact g1 k (by omega)
      · simp only [forall_eq, true_implies, false_implies, not_true_eq_false, not_false_eq_true, and_true, true_and, and_self, isB0, isB1, bI_t0, bI_f0, i10_, i20_, i01_, i02_, i12_, i21_, show (229 ≤ iN t) = False from nle_ (a := 229) (by decide) (by omega) ht, show inb (iN t) 2129 from inb_of (by omega) (by decide), ix_of (show t < 2147483648 by omega), show Mt.1 100 0 4 = iN m by rw [g3 100 0 4 (by omega)]; exact h, e1, show inb (iN (229 * m + t)) 1374 from inb_of (by omega) (by decide), ix_of (show 229 * m + t < 2147483648 by omega), show Mt.1 103 0 (229 * m + t) = M.1 103 0 (229 * m + t) from g3 103 0 _ (by omega), iN_step]
        exact hQ)
    ⟨fun k hk => absurd hk (by omega), k3_refl⟩
  refine ⟨M2, i1, i3, fun Q hQ => hV Q (w212_21 ?_)⟩
  simp only [forall_eq, true_implies, false_implies, not_true_eq_false, not_false_eq_true, and_true, true_and, and_self, isB0, isB1, bI_t0, bI_f0, i10_, i20_, i01_, i02_, i12_, i21_, show ((229 : Int32) ≤ iN 229) = True from by decide]
  exact hQ
theorem op143 {X : Cx} {d : Nat} {M : Mem} {B n nx lc : Nat} (hw : WldL B M lc) (hp : PastJ B M n n n nx lc) : ∃ (x : Int32) (M1 M2 : Mem), CC X (d + 4) 143 [vR 2 0] M (some (vI x)) M1 ∧ CC X (d + 4) 212 [vR 100 0] M1 (some (vI x)) M2 ∧ WalkR B M M2 := by
  obtain ⟨a1, -, a3, a4, a5, a6, a7, a8, ms, b1, b2⟩ := id hp
  have e5 : iN nx + 6 - 1 = iN (nx + 5) := by
    rw [iN_lit 6, iN_add, show nx + 6 = (nx + 5) + 1 by omega, iN_pred]
  have e6 : iN (nx + 5) % 6 = iN ((nx + 5) % 6) := by rw [iN_lit 6, iN_mod (by omega) (by decide) (by decide)]
  have hlt : (nx + 5) % 6 < 6 := Nat.mod_lt _ (by decide)
  by_cases h0 : n = 0
  · subst h0
    have cz : CC X (d + 3) 9 [vR 8 0, vR 20 0] M (some (vI 0)) M := by
      refine e9 (w9_0 ?_)
      simp only [forall_eq, true_implies, false_implies, not_true_eq_false, not_false_eq_true, and_true, true_and, and_self, isB0, isB1, bI_t0, bI_f0, i10_, i20_, i01_, i02_, i12_, i21_, show ((6 : Int32) = 0) = False from by decide, a8, e5, e6, nlt0 (show (nx + 5) % 6 < 2147483648 by omega), show (6 ≤ iN ((nx + 5) % 6)) = False from nle_ (a := 6) (by decide) (by omega) hlt, show inb (iN ((nx + 5) % 6)) 6 from inb_of hlt (by decide), a6, show (iN 0 = 0) = True from eq_true rfl]
    refine ⟨0, M, M, e143 (w143_0 ⟨_, _, cz, isB0, rfl, rfl⟩), e212 (w212_0 ?_), WalkR.refl hw hp (Nat.le_refl _)⟩
    simp only [forall_eq, true_implies, false_implies, not_true_eq_false, not_false_eq_true, and_true, true_and, and_self, isB0, isB1, bI_t0, bI_f0, i10_, i20_, i01_, i02_, i12_, i21_, a7, show (iN 0 = 0) = True from eq_true rfl]
  · obtain ⟨⟨p1, p2, ⟨k, p3, p4⟩, p5, p6, p7, p8⟩, p9⟩ := b1 0 (by omega)
    rw [Nat.sub_zero] at p1 p2 p3 p6 p8
    rw [show n - 1 - 0 = n - 1 by omega] at p1 p4 p7
    generalize hl : (nx + 5) % 6 = l at *
    obtain ⟨N1, x1, x2, x3, x4, x5⟩ := c53 (X := X) (d := d) (M := M) (a := 0) (b := 2 + l) (by omega)
    have r0 : N1.1 8 0 0 = iN n := by rw [x5 8 0 0 (by omega)]; exact a6
    obtain ⟨m, rfl⟩ : ∃ m, n = m + 1 := ⟨n - 1, by omega⟩
    rw [Nat.add_sub_cancel] at p1 p4 p7
    have r0' : ∀ y, (st N1 8 0 1 y).1 8 0 0 = iN (m + 1) := fun y => by rw [st_ne3 (by omega)]; exact r0
    have cz : CC X (d + 3) 9 [vR 8 0, vR 20 0] M (some (vI 1)) (st (st N1 8 0 1 (iN l)) 8 0 0 (iN m)) := by
      refine e9 (w9_0 ?_)
      simp only [forall_eq, true_implies, false_implies, not_true_eq_false, not_false_eq_true, and_true, true_and, and_self, isB0, isB1, bI_t0, bI_f0, i10_, i20_, i01_, i02_, i12_, i21_, show ((6 : Int32) = 0) = False from by decide, a8, e5, e6, nlt0 (show l < 2147483648 by omega), show (6 ≤ iN l) = False from nle_ (a := 6) (by decide) (by omega) hlt, show inb (iN l) 6 from inb_of hlt (by decide), a6, iN_ne0 (show 0 < m + 1 by omega) (by omega), ix_of (show l < 2147483648 by omega)]
      refine ⟨_, x1, ?_⟩
      simp only [forall_eq, true_implies, false_implies, not_true_eq_false, not_false_eq_true, and_true, true_and, and_self, isB0, isB1, bI_t0, bI_f0, i10_, i20_, i01_, i02_, i12_, i21_, r0', iN_pred]
    have kN : K3 (fun c a j => (a = 0 ∧ 20 ≤ c ∧ c < 32) ∨ (c = 8 ∧ a = 0 ∧ j < 2)) M (st (st N1 8 0 1 (iN l)) 8 0 0 (iN m)) := k3_trans (k3_trans (k3_sub x5 (fun c a j z => Or.inl z)) (k3_st (Or.inr ⟨rfl, rfl, by decide⟩))) (k3_st (Or.inr ⟨rfl, rfl, by decide⟩))
    generalize hN2 : st (st N1 8 0 1 (iN l)) 8 0 0 (iN m) = N2 at cz kN
    have r4 : N2.1 100 0 4 = iN (m + 1) := by rw [kN 100 0 4 (by omega)]; exact a7
    obtain ⟨N3, y1, y2, y3⟩ := c212_copy (X := X) (d := d + 3) (M := st N2 100 0 4 (iN m)) (m := m) (by omega) st_at
    have y1' : ∀ k, k < 229 → N3.1 101 0 k = M.1 103 0 (229 * m + k) := fun k hk => by rw [y1 k hk, st_ne3 (fun z => absurd z.1 (by decide)), kN 103 0 _ (by omega)]
    have w3 : ∀ k, 229 ≤ k → N3.1 101 0 k = M.1 101 0 k := fun k hk => by rw [y2 101 0 k (by omega), st_ne3 (fun z => absurd z.1 (by decide)), kN 101 0 k (by omega)]
    have K23 : K3 (fun c a j => (c = 101 ∧ a = 0 ∧ j < 229) ∨ (c = 100 ∧ a = 0 ∧ j = 4)) N2 N3 := k3_trans (k3_st (Or.inr ⟨rfl, rfl, rfl⟩)) (k3_sub y2 (fun c a j z => Or.inl z))
    have KK : K3 OpP M N3 := k3_trans (k3_sub kN (fun c a j z => by
      rcases z with ⟨rfl, q1, q2⟩ | ⟨rfl, rfl, q⟩
      · exact OpP.l q1 q2 (by decide)
      · exact OpP.p q)) (k3_sub K23 (fun c a j z => by
      rcases z with ⟨rfl, rfl, q⟩ | ⟨rfl, rfl, rfl⟩
      · exact OpP.w (Or.inl q)
      · exact OpP.m (Or.inl rfl)))
    have c32 : ∀ c a, 20 ≤ c → c < 32 → N3.1 c a = N2.1 c a := fun c a q1 q2 => k3_col K23 (fun _ => by omega)
    have c21 : ∀ c a, 20 ≤ c → c < 32 → N2.1 c a = N1.1 c a := fun c a q1 q2 => by rw [← hN2, st_ne (by omega), st_ne (by omega)]
    have eM : TM N3 = TW (mix (M.1 103 0) (M.1 101 0) m) := by
      refine TW_ext (fun k hk => ?_)
      unfold mix
      by_cases hk2 : k < 229
      · rw [if_pos hk2]
        exact y1' k hk2
      · rw [if_neg hk2]
        exact w3 k (by omega)
    have eC : TC N3 0 = TC M (2 + l) := by rw [TC_of (fun c q1 q2 => (c32 c 0 q1 (by omega)).trans (c21 c 0 q1 (by omega))), x2]
    have hs : ShW (M.1 101 0) (N3.1 101 0) (ms 0) := ⟨fun i hi => w3 i (by omega), fun i hi => w3 _ (by omega)⟩
    refine ⟨1, N2, N3, e143 (w143_0 ⟨_, _, cz, isB1, rfl, rfl⟩), e212 (w212_0 ?_), ⟨m, l, ms 0, ⟨?_, ?_, ?_, p5, ?_, ?_, fun i hi => ?_⟩, ?_, KK⟩⟩
    · simp only [forall_eq, true_implies, false_implies, not_true_eq_false, not_false_eq_true, and_true, true_and, and_self, isB0, isB1, bI_t0, bI_f0, i10_, i20_, i01_, i02_, i12_, i21_, r4, iN_ne0 (show 0 < m + 1 by omega) (by omega), iN_pred]
      exact y3 _ ⟨rfl, rfl⟩
    · rw [eC, eM, p1]
    · rw [eM, ← p1]
      exact p2
    · refine ⟨k, ?_, ?_⟩
      · rw [eM, ← p1]
        exact p3
      · rw [y1' 6 (by decide)]
        exact p4
    · rw [c32 30 0 (by decide) (by decide), c21 30 0 (by decide) (by decide), x3]
      exact p6
    · rw [y1' 5 (by decide)]
      exact p7
    · rw [c32 31 0 (by decide) (by decide), c21 31 0 (by decide) (by decide), x4 i (by omega), hs.2 i hi]
      exact p8 i hi
    · refine ⟨by omega, by omega, by omega, Nat.le_refl _, Nat.le_refl _, ?_, ?_, ?_, fun t => ms (t + 1), fun t ht => ?_, fun t u q1 q2 => b2 (t + 1) (u + 1) (by omega) (by omega)⟩
      · rw [K23 8 0 0 (by omega), ← hN2, st_at]
      · rw [y2 100 0 4 (by omega), st_at]
      · rw [K23 8 0 1 (by omega), ← hN2, st_ne3 (by omega), st_at]
      · obtain ⟨z1, z2⟩ := b1 (t + 1) (by omega)
        rw [show 2 + (nx + 5 - (t + 1)) % 6 = 2 + (l + 5 - t) % 6 by omega, show m + 1 - 1 - (t + 1) = m - 1 - t by omega] at z1
        have hle := b2 0 (t + 1) (by omega) (by omega)
        refine ⟨z1.move hle hs (fun k _ => by rw [K23 103 0 _ (by omega), kN 103 0 _ (by omega)]) (fun c q1 q2 => ?_), hle⟩
        rw [c32 c _ q1 q2]
        exact k3_col kN (fun _ => by omega)
