/-! of, tells -/
abbrev Scr : Nat → Nat → Nat → Prop := fun c _ _ => c = 12 ∨ c = 47 ∨ c = 109 ∨ c = 110
theorem TM_k {P : Nat → Nat → Nat → Prop} {M M2 : Mem} (h : K3 P M M2) (hp : ∀ j, ¬ P 101 0 j) : TM M2 = TM M := by
  show TW (M2.1 101 0) = TW (M.1 101 0)
  rw [k3_col h hp]
/-- of, both -/
theorem op111 {X : Cx} {d : Nat} {M : Mem} {v q : Int32} {L : Lw} (h : LandI M) (hLC : LawC M 0 L) (hLM : LawM (M.1 101 0) L) (hLT : LawT L) : ∃ (x : Int32) (M1 M2 : Mem), CC X (d + 6) 111 [vR 2 0, vI v, vI q] M (some (vI x)) M1 ∧ CC X (d + 6) 228 [vR 100 0, vI v, vI q] M1 (some (vI x)) M2 ∧ K3 Scr M M2 := by
  obtain ⟨hT, hc, -⟩ := h
  obtain ⟨⟨n, hn, n1, n2⟩, -, ⟨m, hm, m1, m2⟩⟩ := land_n hT hc
  have cd (v : Int32) := c57 (X := X) (d := d + 4) (M := M) (a := 0) (v := v)
  rw [m1] at cd
  have rd (v : Int32) (M1 : Mem) (g : M1.1 101 0 231 = iN m) := c157 (X := X) (d := d + 3) (M := M1) (v := v) g hm
  have cf (v : Int32) := c55 (X := X) (d := d + 4) (M := M) (a := 0) (v := v)
  rw [n1] at cf
  have rf (v : Int32) (M1 : Mem) (g : M1.1 101 0 229 = iN n) := c155 (X := X) (d := d + 3) (M := M1) (v := v) g hn
  have n30 : ((3 : Int32) = 0) = False := by decide
  have n31 : ((3 : Int32) = 1) = False := by decide
  have n32 : ((3 : Int32) = 2) = False := by decide
  have n40 : ((4 : Int32) = 0) = False := by decide
  have n41 : ((4 : Int32) = 1) = False := by decide
  have n42 : ((4 : Int32) = 2) = False := by decide
  have n43 : ((4 : Int32) = 3) = False := by decide
  by_cases hv : has v (iN m) 12 = true
  · have hv0 := hv
    obtain ⟨p, rfl, hp⟩ := has_lt (k := 12) hm (by decide) hv
    have p12 : p < 12 := by omega
    have bp : inb (iN p) 12 := inb_of p12 (by decide)
    have xp : ix (iN p) = p := ix_of (by omega)
    by_cases q0 : q = 0
    · subst q0
      have e1 : 251 + iN p = iN (251 + p) := by simp only [iN_lit, iN_add]
      refine ⟨TM M 25 p, M, M, e111 (w111_0 ⟨_, _, cd _, ?_⟩), e228 (w228_0 ⟨_, _, rd _ _ m2, ?_⟩), k3_refl⟩
      · rw [hv]
        simp only [forall_eq, true_implies, false_implies, not_true_eq_false, not_false_eq_true, and_true, true_and, and_self, isB0, isB1, bI_t0, bI_f0, i10_, i20_, i01_, i02_, i12_, i21_, bp, xp, land_c hT (show okC 25 p = true by simpa [okC] using p12)]
      · rw [hv]
        simp only [forall_eq, true_implies, false_implies, not_true_eq_false, not_false_eq_true, and_true, true_and, and_self, isB0, isB1, bI_t0, bI_f0, i10_, i20_, i01_, i02_, i12_, i21_, e1, show inb (iN (251 + p)) 2129 from inb_of (by omega) (by decide), ix_of (show 251 + p < 2147483648 by omega), show M.1 101 0 (251 + p) = TM M 25 p from TW_c (show okC 25 p = true by simpa [okC] using p12)]
    · by_cases q1 : q = 1
      · subst q1
        have e1 : 263 + iN p = iN (263 + p) := by simp only [iN_lit, iN_add]
        refine ⟨TM M 26 p, M, M, e111 (w111_0 ⟨_, _, cd _, ?_⟩), e228 (w228_0 ⟨_, _, rd _ _ m2, ?_⟩), k3_refl⟩
        · rw [hv]
          simp only [forall_eq, true_implies, false_implies, not_true_eq_false, not_false_eq_true, and_true, true_and, and_self, isB0, isB1, bI_t0, bI_f0, i10_, i20_, i01_, i02_, i12_, i21_, bp, xp, land_c hT (show okC 26 p = true by simpa [okC] using p12)]
        · rw [hv]
          simp only [forall_eq, true_implies, false_implies, not_true_eq_false, not_false_eq_true, and_true, true_and, and_self, isB0, isB1, bI_t0, bI_f0, i10_, i20_, i01_, i02_, i12_, i21_, e1, show inb (iN (263 + p)) 2129 from inb_of (by omega) (by decide), ix_of (show 263 + p < 2147483648 by omega), show M.1 101 0 (263 + p) = TM M 26 p from TW_c (show okC 26 p = true by simpa [okC] using p12)]
      · by_cases q2 : q = 2
        · subst q2
          have e1 : 275 + iN p = iN (275 + p) := by simp only [iN_lit, iN_add]
          refine ⟨TM M 27 p, M, M, e111 (w111_0 ⟨_, _, cd _, ?_⟩), e228 (w228_0 ⟨_, _, rd _ _ m2, ?_⟩), k3_refl⟩
          · rw [hv]
            simp only [forall_eq, true_implies, false_implies, not_true_eq_false, not_false_eq_true, and_true, true_and, and_self, isB0, isB1, bI_t0, bI_f0, i10_, i20_, i01_, i02_, i12_, i21_, bp, xp, land_c hT (show okC 27 p = true by simpa [okC] using p12)]
          · rw [hv]
            simp only [forall_eq, true_implies, false_implies, not_true_eq_false, not_false_eq_true, and_true, true_and, and_self, isB0, isB1, bI_t0, bI_f0, i10_, i20_, i01_, i02_, i12_, i21_, e1, show inb (iN (275 + p)) 2129 from inb_of (by omega) (by decide), ix_of (show 275 + p < 2147483648 by omega), show M.1 101 0 (275 + p) = TM M 27 p from TW_c (show okC 27 p = true by simpa [okC] using p12)]
        · by_cases q3 : q = 3
          · subst q3
            have e1 : 17 + iN p = iN (17 + p) := by simp only [iN_lit, iN_add]
            refine ⟨TM M 28 p, M, M, e111 (w111_0 ⟨_, _, cd _, ?_⟩), e228 (w228_0 ⟨_, _, rd _ _ m2, ?_⟩), k3_refl⟩
            · rw [hv]
              simp only [forall_eq, true_implies, false_implies, not_true_eq_false, not_false_eq_true, and_true, true_and, and_self, isB0, isB1, bI_t0, bI_f0, i10_, i20_, i01_, i02_, i12_, i21_, n30, n31, n32, bp, xp, land_c hT (show okC 28 p = true by simpa [okC] using p12)]
            · rw [hv]
              simp only [forall_eq, true_implies, false_implies, not_true_eq_false, not_false_eq_true, and_true, true_and, and_self, isB0, isB1, bI_t0, bI_f0, i10_, i20_, i01_, i02_, i12_, i21_, n30, n31, n32, e1, show inb (iN (17 + p)) 2129 from inb_of (by omega) (by decide), ix_of (show 17 + p < 2147483648 by omega), show M.1 101 0 (17 + p) = TM M 28 p from TW_c (show okC 28 p = true by simpa [okC] using p12)]
          · by_cases q4 : q = 4
            · subst q4
              have ca := c63 (X := X) (d := d + 3) (M := M) (a := 0) (p := iN p)
              rw [m1, if_pos hv, ix_of (by omega), hT] at ca
              refine ⟨load (TM M) p, M, M, e111 (w111_0 ⟨_, _, cd _, ?_⟩), e228 (w228_0 ⟨_, _, rd _ _ m2, ?_⟩), k3_refl⟩
              · rw [hv]
                simp only [forall_eq, true_implies, false_implies, not_true_eq_false, not_false_eq_true, and_true, true_and, and_self, isB0, isB1, bI_t0, bI_f0, i10_, i20_, i01_, i02_, i12_, i21_, n40, n41, n42, n43]
                exact ⟨_, _, ca, rfl, rfl⟩
              · rw [hv]
                simp only [forall_eq, true_implies, false_implies, not_true_eq_false, not_false_eq_true, and_true, true_and, and_self, isB0, isB1, bI_t0, bI_f0, i10_, i20_, i01_, i02_, i12_, i21_, n40, n41, n42, n43]
                exact ⟨_, _, c206 p12, rfl, rfl⟩
            · by_cases hf : has (q - 10) (iN n) 10 = true
              · obtain ⟨f, hq, hf1⟩ := has_lt (k := 10) hn (by decide) hf
                have hq2 := sub_eq (a := 10) hq
                subst hq2
                have b1 : (iN p * 10 + iN (10 + f)) - 10 = iN (p * 10 + f) := by
                  simp only [iN_lit, iN_mul, iN_add]
                  rw [show p * 10 + (10 + f) = (p * 10 + f) + 10 by omega, ← iN_add]
                  grind
                have b2 : ((109 + (10 * iN p)) + iN (10 + f)) - 10 = iN (109 + (p * 10 + f)) := by
                  simp only [iN_lit, iN_mul, iN_add]
                  rw [show 109 + 10 * p + (10 + f) = (109 + (p * 10 + f)) + 10 by omega, ← iN_add]
                  grind
                refine ⟨TM M 29 (p * 10 + f), M, M, e111 (w111_0 ⟨_, _, cd _, ?_⟩), e228 (w228_0 ⟨_, _, rd _ _ m2, ?_⟩), k3_refl⟩
                · rw [hv]
                  simp only [forall_eq, true_implies, false_implies, not_true_eq_false, not_false_eq_true, and_true, true_and, and_self, isB0, isB1, bI_t0, bI_f0, i10_, i20_, i01_, i02_, i12_, i21_, q0, q1, q2, q3, q4]
                  refine ⟨_, _, c146, ?_⟩
                  rw [show inR (iN (10 + f)) 10 19 = true from inR_of (lo := 10) (hi := 19) (by omega) (by omega) (by decide)]
                  simp only [forall_eq, true_implies, false_implies, not_true_eq_false, not_false_eq_true, and_true, true_and, and_self, isB0, isB1, bI_t0, bI_f0, i10_, i20_, i01_, i02_, i12_, i21_]
                  refine ⟨_, _, cf _, ?_⟩
                  rw [hf]
                  simp only [forall_eq, true_implies, false_implies, not_true_eq_false, not_false_eq_true, and_true, true_and, and_self, isB0, isB1, bI_t0, bI_f0, i10_, i20_, i01_, i02_, i12_, i21_, b1, show inb (iN (p * 10 + f)) 120 from inb_of (by omega) (by decide), ix_of (show p * 10 + f < 2147483648 by omega), land_c hT (okT29 p12 (show f < 10 by omega))]
                · rw [hv]
                  simp only [forall_eq, true_implies, false_implies, not_true_eq_false, not_false_eq_true, and_true, true_and, and_self, isB0, isB1, bI_t0, bI_f0, i10_, i20_, i01_, i02_, i12_, i21_, q0, q1, q2, q3, q4]
                  refine ⟨_, _, rf _ _ n2, ?_⟩
                  rw [hf]
                  simp only [forall_eq, true_implies, false_implies, not_true_eq_false, not_false_eq_true, and_true, true_and, and_self, isB0, isB1, bI_t0, bI_f0, i10_, i20_, i01_, i02_, i12_, i21_, b2, show inb (iN (109 + (p * 10 + f))) 2129 from inb_of (by omega) (by decide), ix_of (show 109 + (p * 10 + f) < 2147483648 by omega), show M.1 101 0 (109 + (p * 10 + f)) = TM M 29 (p * 10 + f) from TW_c (okT29 p12 (show f < 10 by omega))]
              · have hf : has (q - 10) (iN n) 10 = false := by simpa using hf
                by_cases hd : has (q - 20) (iN n) 10 = true
                · have hd0 := hd
                  obtain ⟨f, hq, hf1⟩ := has_lt (k := 10) hn (by decide) hd
                  have hq2 := sub_eq (a := 20) hq
                  subst hq2
                  have b1 : (iN (20 + f)) - 20 = iN f := by rw [← iN_add]; grind
                  rw [b1] at hd0
                  obtain ⟨M1, ca, ka⟩ := c89 (X := X) (d := d + 1) (M := M) (a := 0) (n := m) (word := 0) (p := p) (pf := iN f) (pe := -1) (f := some f) (e := none) (by decide) hLC hLT hm m1 hp ⟨rfl, by omega, by rw [n1]; exact hd0⟩ (by
                    show has (-1) _ 8 = false
                    simp [has])
                  rw [hT] at ca
                  have ka2 : K3 Scr M M1 := k3_sub ka (fun c b j z => by rcases z with ⟨z, -⟩ | z <;> simp [Scr, z])
                  have w1 : M1.1 101 0 = M.1 101 0 := k3_col ka2 (fun _ => by simp [Scr])
                  have wT : TM M1 = TM M := by
                    show TW (M1.1 101 0) = TW (M.1 101 0)
                    rw [w1]
                  obtain ⟨M2, cb, kb⟩ := c208 (X := X) (d := d) (M := M1) (p := p) (f := f) (by rw [w1]; exact hLM) hLT p12 (by omega)
                  rw [wT] at cb
                  refine ⟨askS L (TM M) 0 p (some f) none, M1, M2, e111 (w111_0 ⟨_, _, cd _, ?_⟩), e228 (w228_0 ⟨_, _, rd _ _ (by rw [w1]; exact m2), ?_⟩), k3_trans ka2 (k3_sub kb (fun c b j z => by rcases z with z | z <;> simp [Scr, z]))⟩
                  · rw [hv]
                    simp only [forall_eq, true_implies, false_implies, not_true_eq_false, not_false_eq_true, and_true, true_and, and_self, isB0, isB1, bI_t0, bI_f0, i10_, i20_, i01_, i02_, i12_, i21_, q0, q1, q2, q3, q4]
                    refine ⟨_, _, c146, ?_⟩
                    rw [show inR (iN (20 + f)) 10 19 = false from inR_no (lo := 10) (hi := 19) (by omega) (by omega) (by decide) (by decide)]
                    simp only [forall_eq, true_implies, false_implies, not_true_eq_false, not_false_eq_true, and_true, true_and, and_self, isB0, isB1, bI_t0, bI_f0, i10_, i20_, i01_, i02_, i12_, i21_]
                    refine ⟨_, _, c146, ?_⟩
                    rw [show inR (iN (20 + f)) 20 29 = true from inR_of (lo := 20) (hi := 29) (by omega) (by omega) (by decide)]
                    simp only [forall_eq, true_implies, false_implies, not_true_eq_false, not_false_eq_true, and_true, true_and, and_self, isB0, isB1, bI_t0, bI_f0, i10_, i20_, i01_, i02_, i12_, i21_]
                    refine ⟨_, _, cf _, ?_⟩
                    rw [hd]
                    simp only [forall_eq, true_implies, false_implies, not_true_eq_false, not_false_eq_true, and_true, true_and, and_self, isB0, isB1, bI_t0, bI_f0, i10_, i20_, i01_, i02_, i12_, i21_, b1]
                    exact ⟨_, _, ca, rfl, rfl⟩
                  · rw [hv]
                    simp only [forall_eq, true_implies, false_implies, not_true_eq_false, not_false_eq_true, and_true, true_and, and_self, isB0, isB1, bI_t0, bI_f0, i10_, i20_, i01_, i02_, i12_, i21_, q0, q1, q2, q3, q4]
                    refine ⟨_, _, rf _ _ (by rw [w1]; exact n2), ?_⟩
                    rw [hf]
                    simp only [forall_eq, true_implies, false_implies, not_true_eq_false, not_false_eq_true, and_true, true_and, and_self, isB0, isB1, bI_t0, bI_f0, i10_, i20_, i01_, i02_, i12_, i21_]
                    refine ⟨_, _, rf _ _ (by rw [w1]; exact n2), ?_⟩
                    rw [hd]
                    simp only [forall_eq, true_implies, false_implies, not_true_eq_false, not_false_eq_true, and_true, true_and, and_self, isB0, isB1, bI_t0, bI_f0, i10_, i20_, i01_, i02_, i12_, i21_, b1]
                    exact ⟨_, _, cb, rfl, rfl⟩
                · have hd : has (q - 20) (iN n) 10 = false := by simpa using hd
                  refine ⟨-1, M, M, e111 (w111_0 ⟨_, _, cd _, ?_⟩), e228 (w228_0 ⟨_, _, rd _ _ m2, ?_⟩), k3_refl⟩
                  · rw [hv]
                    simp only [forall_eq, true_implies, false_implies, not_true_eq_false, not_false_eq_true, and_true, true_and, and_self, isB0, isB1, bI_t0, bI_f0, i10_, i20_, i01_, i02_, i12_, i21_, q0, q1, q2, q3, q4]
                    refine ⟨_, _, c146, bI_if (fun _ => ⟨_, _, c146, bI_if (fun _ => rfl) (fun _ => ⟨_, _, cf _, ?_⟩)⟩) (fun _ => ⟨_, _, cf _, ?_⟩)⟩
                    · rw [hd]
                      simp only [forall_eq, true_implies, false_implies, not_true_eq_false, not_false_eq_true, and_true, true_and, and_self, isB0, isB1, bI_t0, bI_f0, i10_, i20_, i01_, i02_, i12_, i21_]
                    · rw [hf]
                      simp only [forall_eq, true_implies, false_implies, not_true_eq_false, not_false_eq_true, and_true, true_and, and_self, isB0, isB1, bI_t0, bI_f0, i10_, i20_, i01_, i02_, i12_, i21_]
                      refine ⟨_, _, c146, bI_if (fun _ => rfl) (fun _ => ⟨_, _, cf _, ?_⟩)⟩
                      rw [hd]
                      simp only [forall_eq, true_implies, false_implies, not_true_eq_false, not_false_eq_true, and_true, true_and, and_self, isB0, isB1, bI_t0, bI_f0, i10_, i20_, i01_, i02_, i12_, i21_]
                  · rw [hv]
                    simp only [forall_eq, true_implies, false_implies, not_true_eq_false, not_false_eq_true, and_true, true_and, and_self, isB0, isB1, bI_t0, bI_f0, i10_, i20_, i01_, i02_, i12_, i21_, q0, q1, q2, q3, q4]
                    refine ⟨_, _, rf _ _ n2, ?_⟩
                    rw [hf]
                    simp only [forall_eq, true_implies, false_implies, not_true_eq_false, not_false_eq_true, and_true, true_and, and_self, isB0, isB1, bI_t0, bI_f0, i10_, i20_, i01_, i02_, i12_, i21_]
                    refine ⟨_, _, rf _ _ n2, ?_⟩
                    rw [hd]
                    simp only [forall_eq, true_implies, false_implies, not_true_eq_false, not_false_eq_true, and_true, true_and, and_self, isB0, isB1, bI_t0, bI_f0, i10_, i20_, i01_, i02_, i12_, i21_]
  · have hv : has v (iN m) 12 = false := by simpa using hv
    refine ⟨-1, M, M, e111 (w111_0 ⟨_, _, cd _, ?_⟩), e228 (w228_0 ⟨_, _, rd _ _ m2, ?_⟩), k3_refl⟩
    · rw [hv]
      simp only [forall_eq, true_implies, false_implies, not_true_eq_false, not_false_eq_true, and_true, true_and, and_self, isB0, isB1, bI_t0, bI_f0, i10_, i20_, i01_, i02_, i12_, i21_]
    · rw [hv]
      simp only [forall_eq, true_implies, false_implies, not_true_eq_false, not_false_eq_true, and_true, true_and, and_self, isB0, isB1, bI_t0, bI_f0, i10_, i20_, i01_, i02_, i12_, i21_]
/-- tells, both -/
theorem op114 {X : Cx} {d : Nat} {M : Mem} {u v q t : Int32} {L : Lw} (h : LandI M) (hLC : LawC M 0 L) (hLM : LawM (M.1 101 0) L) (hLT : LawT L) : ∃ (x : Int32) (M1 M2 : Mem), CC X (d + 6) 114 [vR 2 0, vI u, vI v, vI q, vI t] M (some (vI x)) M1 ∧ CC X (d + 6) 234 [vR 100 0, vI u, vI v, vI q, vI t] M1 (some (vI x)) M2 ∧ K3 Scr M M2 := by
  obtain ⟨hT, hc, -⟩ := h
  obtain ⟨⟨n, hn, n1, n2⟩, ⟨k, hk, k1, k2⟩, ⟨m, hm, m1, m2⟩⟩ := land_n hT hc
  have cp := c57 (X := X) (d := d + 4) (M := M) (a := 0) (v := u)
  rw [m1] at cp
  have rp (M1 : Mem) (g : M1.1 101 0 231 = iN m) := c157 (X := X) (d := d + 3) (M := M1) (v := u) g hm
  have cd := c56 (X := X) (d := d + 4) (M := M) (a := 0) (v := q)
  rw [k1] at cd
  have rd (M1 : Mem) (g : M1.1 101 0 230 = iN k) := c156 (X := X) (d := d + 3) (M := M1) (v := q) g hk
  have cf := c55 (X := X) (d := d + 4) (M := M) (a := 0) (v := v)
  rw [n1] at cf
  have rf (M1 : Mem) (g : M1.1 101 0 229 = iN n) := c155 (X := X) (d := d + 3) (M := M1) (v := v) g hn
  by_cases hu : has u (iN m) 12 = true
  · by_cases hq : has q (iN k) 8 = true
    · obtain ⟨p, rfl, hp⟩ := has_lt (k := 12) hm (by decide) hu
      have hq0 := hq
      obtain ⟨e, rfl, he⟩ := has_lt (k := 8) hk (by decide) hq
      by_cases t0 : t = 0
      · subst t0
        by_cases hv : has v (iN n) 10 = true
        · have hv0 := hv
          obtain ⟨f, rfl, hf⟩ := has_lt (k := 10) hn (by decide) hv
          obtain ⟨M1, ca, ka⟩ := c89 (X := X) (d := d + 1) (M := M) (a := 0) (n := m) (word := 1) (p := p) (pf := iN f) (pe := iN e) (f := some f) (e := some e) (by decide) hLC hLT hm m1 hp ⟨rfl, by omega, by rw [n1]; exact hv0⟩ ⟨rfl, by omega, by rw [k1]; exact hq0⟩
          rw [hT] at ca
          have ka2 : K3 Scr M M1 := k3_sub ka (fun c b j z => by rcases z with ⟨z, -⟩ | z <;> simp [Scr, z])
          have w1 : M1.1 101 0 = M.1 101 0 := k3_col ka2 (fun _ => by simp [Scr])
          obtain ⟨M2, cb, kb⟩ := c209 (X := X) (d := d) (M := M1) (p := p) (f := f) (e := e) (by rw [w1]; exact hLM) hLT (by omega) (by omega) (by omega)
          rw [TM_k ka2 (fun _ => by simp [Scr])] at cb
          refine ⟨askS L (TM M) 1 p (some f) (some e), M1, M2, e114 (w114_0 ⟨_, _, cp, ?_⟩), e234 (w234_0 ⟨_, _, rp _ (by rw [w1]; exact m2), ?_⟩), k3_trans ka2 (k3_sub kb (fun c b j z => by rcases z with z | z <;> simp [Scr, z]))⟩
          · rw [hu]
            simp only [forall_eq, true_implies, false_implies, not_true_eq_false, not_false_eq_true, and_true, true_and, and_self, isB0, isB1, bI_t0, bI_f0, i10_, i20_, i01_, i02_, i12_, i21_]
            refine ⟨_, _, cd, ?_⟩
            rw [hq]
            simp only [forall_eq, true_implies, false_implies, not_true_eq_false, not_false_eq_true, and_true, true_and, and_self, isB0, isB1, bI_t0, bI_f0, i10_, i20_, i01_, i02_, i12_, i21_]
            refine ⟨_, _, cf, ?_⟩
            rw [hv]
            simp only [forall_eq, true_implies, false_implies, not_true_eq_false, not_false_eq_true, and_true, true_and, and_self, isB0, isB1, bI_t0, bI_f0, i10_, i20_, i01_, i02_, i12_, i21_]
            exact ⟨_, _, ca, rfl, rfl⟩
          · rw [hu]
            simp only [forall_eq, true_implies, false_implies, not_true_eq_false, not_false_eq_true, and_true, true_and, and_self, isB0, isB1, bI_t0, bI_f0, i10_, i20_, i01_, i02_, i12_, i21_]
            refine ⟨_, _, rd _ (by rw [w1]; exact k2), ?_⟩
            rw [hq]
            simp only [forall_eq, true_implies, false_implies, not_true_eq_false, not_false_eq_true, and_true, true_and, and_self, isB0, isB1, bI_t0, bI_f0, i10_, i20_, i01_, i02_, i12_, i21_]
            refine ⟨_, _, c151, ?_⟩
            rw [show inR 0 0 1 = true from by decide]
            simp only [forall_eq, true_implies, false_implies, not_true_eq_false, not_false_eq_true, and_true, true_and, and_self, isB0, isB1, bI_t0, bI_f0, i10_, i20_, i01_, i02_, i12_, i21_]
            refine ⟨_, _, rf _ (by rw [w1]; exact n2), ?_⟩
            rw [hv]
            simp only [forall_eq, true_implies, false_implies, not_true_eq_false, not_false_eq_true, and_true, true_and, and_self, isB0, isB1, bI_t0, bI_f0, i10_, i20_, i01_, i02_, i12_, i21_]
            exact ⟨_, _, cb, rfl, rfl⟩
        · have hv : has v (iN n) 10 = false := by simpa using hv
          refine ⟨-1, M, M, e114 (w114_0 ⟨_, _, cp, ?_⟩), e234 (w234_0 ⟨_, _, rp _ m2, ?_⟩), k3_refl⟩
          · rw [hu]
            simp only [forall_eq, true_implies, false_implies, not_true_eq_false, not_false_eq_true, and_true, true_and, and_self, isB0, isB1, bI_t0, bI_f0, i10_, i20_, i01_, i02_, i12_, i21_]
            refine ⟨_, _, cd, ?_⟩
            rw [hq]
            simp only [forall_eq, true_implies, false_implies, not_true_eq_false, not_false_eq_true, and_true, true_and, and_self, isB0, isB1, bI_t0, bI_f0, i10_, i20_, i01_, i02_, i12_, i21_]
            refine ⟨_, _, cf, ?_⟩
            rw [hv]
            simp only [forall_eq, true_implies, false_implies, not_true_eq_false, not_false_eq_true, and_true, true_and, and_self, isB0, isB1, bI_t0, bI_f0, i10_, i20_, i01_, i02_, i12_, i21_]
          · rw [hu]
            simp only [forall_eq, true_implies, false_implies, not_true_eq_false, not_false_eq_true, and_true, true_and, and_self, isB0, isB1, bI_t0, bI_f0, i10_, i20_, i01_, i02_, i12_, i21_]
            refine ⟨_, _, rd _ k2, ?_⟩
            rw [hq]
            simp only [forall_eq, true_implies, false_implies, not_true_eq_false, not_false_eq_true, and_true, true_and, and_self, isB0, isB1, bI_t0, bI_f0, i10_, i20_, i01_, i02_, i12_, i21_]
            refine ⟨_, _, c151, ?_⟩
            rw [show inR 0 0 1 = true from by decide]
            simp only [forall_eq, true_implies, false_implies, not_true_eq_false, not_false_eq_true, and_true, true_and, and_self, isB0, isB1, bI_t0, bI_f0, i10_, i20_, i01_, i02_, i12_, i21_]
            refine ⟨_, _, rf _ n2, ?_⟩
            rw [hv]
            simp only [forall_eq, true_implies, false_implies, not_true_eq_false, not_false_eq_true, and_true, true_and, and_self, isB0, isB1, bI_t0, bI_f0, i10_, i20_, i01_, i02_, i12_, i21_]
      · by_cases t1 : t = 1
        · subst t1
          obtain ⟨M1, ca, ka⟩ := c89 (X := X) (d := d + 1) (M := M) (a := 0) (n := m) (word := 2) (p := p) (pf := -1) (pe := iN e) (f := none) (e := some e) (by decide) hLC hLT hm m1 hp (by
            show has (-1) _ 10 = false
            simp [has]) ⟨rfl, by omega, by rw [k1]; exact hq0⟩
          rw [hT] at ca
          have ka2 : K3 Scr M M1 := k3_sub ka (fun c b j z => by rcases z with ⟨z, -⟩ | z <;> simp [Scr, z])
          have w1 : M1.1 101 0 = M.1 101 0 := k3_col ka2 (fun _ => by simp [Scr])
          obtain ⟨M2, cb, kb⟩ := c210 (X := X) (d := d) (M := M1) (p := p) (e := e) (by rw [w1]; exact hLM) hLT (by omega) (by omega)
          rw [TM_k ka2 (fun _ => by simp [Scr])] at cb
          refine ⟨askS L (TM M) 2 p none (some e), M1, M2, e114 (w114_0 ⟨_, _, cp, ?_⟩), e234 (w234_0 ⟨_, _, rp _ (by rw [w1]; exact m2), ?_⟩), k3_trans ka2 (k3_sub kb (fun c b j z => by rcases z with z | z <;> simp [Scr, z]))⟩
          · rw [hu]
            simp only [forall_eq, true_implies, false_implies, not_true_eq_false, not_false_eq_true, and_true, true_and, and_self, isB0, isB1, bI_t0, bI_f0, i10_, i20_, i01_, i02_, i12_, i21_]
            refine ⟨_, _, cd, ?_⟩
            rw [hq]
            simp only [forall_eq, true_implies, false_implies, not_true_eq_false, not_false_eq_true, and_true, true_and, and_self, isB0, isB1, bI_t0, bI_f0, i10_, i20_, i01_, i02_, i12_, i21_]
            exact ⟨_, _, ca, rfl, rfl⟩
          · rw [hu]
            simp only [forall_eq, true_implies, false_implies, not_true_eq_false, not_false_eq_true, and_true, true_and, and_self, isB0, isB1, bI_t0, bI_f0, i10_, i20_, i01_, i02_, i12_, i21_]
            refine ⟨_, _, rd _ (by rw [w1]; exact k2), ?_⟩
            rw [hq]
            simp only [forall_eq, true_implies, false_implies, not_true_eq_false, not_false_eq_true, and_true, true_and, and_self, isB0, isB1, bI_t0, bI_f0, i10_, i20_, i01_, i02_, i12_, i21_]
            refine ⟨_, _, c151, ?_⟩
            rw [show inR 1 0 1 = true from by decide]
            simp only [forall_eq, true_implies, false_implies, not_true_eq_false, not_false_eq_true, and_true, true_and, and_self, isB0, isB1, bI_t0, bI_f0, i10_, i20_, i01_, i02_, i12_, i21_]
            exact ⟨_, _, cb, rfl, rfl⟩
        · have ht : inR t 0 1 = false := by
            cases hh : inR t 0 1 with
            | false => rfl
            | true =>
              obtain ⟨k, rfl, hk⟩ := inR_iN (hi := 1) (by decide) hh
              rcases (show k = 0 ∨ k = 1 by omega) with rfl | rfl
              · exact absurd rfl t0
              · exact absurd rfl t1
          refine ⟨-1, M, M, e114 (w114_0 ⟨_, _, cp, ?_⟩), e234 (w234_0 ⟨_, _, rp _ m2, ?_⟩), k3_refl⟩
          · rw [hu]
            simp only [forall_eq, true_implies, false_implies, not_true_eq_false, not_false_eq_true, and_true, true_and, and_self, isB0, isB1, bI_t0, bI_f0, i10_, i20_, i01_, i02_, i12_, i21_]
            refine ⟨_, _, cd, ?_⟩
            rw [hq]
            simp only [forall_eq, true_implies, false_implies, not_true_eq_false, not_false_eq_true, and_true, true_and, and_self, isB0, isB1, bI_t0, bI_f0, i10_, i20_, i01_, i02_, i12_, i21_, t0, t1]
          · rw [hu]
            simp only [forall_eq, true_implies, false_implies, not_true_eq_false, not_false_eq_true, and_true, true_and, and_self, isB0, isB1, bI_t0, bI_f0, i10_, i20_, i01_, i02_, i12_, i21_]
            refine ⟨_, _, rd _ k2, ?_⟩
            rw [hq]
            simp only [forall_eq, true_implies, false_implies, not_true_eq_false, not_false_eq_true, and_true, true_and, and_self, isB0, isB1, bI_t0, bI_f0, i10_, i20_, i01_, i02_, i12_, i21_]
            refine ⟨_, _, c151, ?_⟩
            rw [ht]
            simp only [forall_eq, true_implies, false_implies, not_true_eq_false, not_false_eq_true, and_true, true_and, and_self, isB0, isB1, bI_t0, bI_f0, i10_, i20_, i01_, i02_, i12_, i21_]
    · have hq : has q (iN k) 8 = false := by simpa using hq
      refine ⟨-1, M, M, e114 (w114_0 ⟨_, _, cp, ?_⟩), e234 (w234_0 ⟨_, _, rp _ m2, ?_⟩), k3_refl⟩
      · rw [hu]
        simp only [forall_eq, true_implies, false_implies, not_true_eq_false, not_false_eq_true, and_true, true_and, and_self, isB0, isB1, bI_t0, bI_f0, i10_, i20_, i01_, i02_, i12_, i21_]
        refine ⟨_, _, cd, ?_⟩
        rw [hq]
        simp only [forall_eq, true_implies, false_implies, not_true_eq_false, not_false_eq_true, and_true, true_and, and_self, isB0, isB1, bI_t0, bI_f0, i10_, i20_, i01_, i02_, i12_, i21_]
      · rw [hu]
        simp only [forall_eq, true_implies, false_implies, not_true_eq_false, not_false_eq_true, and_true, true_and, and_self, isB0, isB1, bI_t0, bI_f0, i10_, i20_, i01_, i02_, i12_, i21_]
        refine ⟨_, _, rd _ k2, ?_⟩
        rw [hq]
        simp only [forall_eq, true_implies, false_implies, not_true_eq_false, not_false_eq_true, and_true, true_and, and_self, isB0, isB1, bI_t0, bI_f0, i10_, i20_, i01_, i02_, i12_, i21_]
  · have hu : has u (iN m) 12 = false := by simpa using hu
    refine ⟨-1, M, M, e114 (w114_0 ⟨_, _, cp, ?_⟩), e234 (w234_0 ⟨_, _, rp _ m2, ?_⟩), k3_refl⟩
    · rw [hu]
      simp only [forall_eq, true_implies, false_implies, not_true_eq_false, not_false_eq_true, and_true, true_and, and_self, isB0, isB1, bI_t0, bI_f0, i10_, i20_, i01_, i02_, i12_, i21_]
    · rw [hu]
      simp only [forall_eq, true_implies, false_implies, not_true_eq_false, not_false_eq_true, and_true, true_and, and_self, isB0, isB1, bI_t0, bI_f0, i10_, i20_, i01_, i02_, i12_, i21_]
