/-! ways, doorOf -/
def WayR (M : Mem) (a : Nat) (W : Nat → Int32) : Prop := ∀ i j : Nat, i < 8 → j < 8 → (M.1 59 a (8 * i + j) = 0 ∧ W (479 + (8 * i + j)) = -1) ∨ ∃ l : Nat, 1 ≤ l ∧ l ≤ 99 ∧ M.1 59 a (8 * i + j) = iN l ∧ W (479 + (8 * i + j)) = iN l
theorem iN_ne0 {l : Nat} (h : 0 < l) (h2 : l < 2147483648) : (iN l = 0) = False := eq_false (fun z => by
  have := (iN_inj (b := 0) h2 (by decide)).mp z
  omega)
theorem has_of {k n m : Nat} (h : k < n) (hn : n ≤ m) (hm : m < 2147483648) : has (iN k) (iN n) (iN m) = true := by
  simp only [has, Bool.and_eq_true, decide_eq_true_eq]
  exact ⟨⟨iN_nn (by omega), (iN_lt (by omega) (by omega)).mpr h⟩, (iN_lt (by omega) (by omega)).mpr (by omega)⟩
theorem inR_of {k lo hi : Nat} (h1 : lo ≤ k) (h2 : k ≤ hi) (hh : hi < 2147483648) : inR (iN k) (iN lo) (iN hi) = true := by
  simp only [inR, Bool.and_eq_true, decide_eq_true_eq]
  exact ⟨(iN_le (by omega) (by omega)).mpr h1, (iN_le (by omega) (by omega)).mpr h2⟩
theorem inR_no {k lo hi : Nat} (h : k < lo ∨ hi < k) (hk : k < 2147483648) (h1 : lo < 2147483648) (hh : hi < 2147483648) : inR (iN k) (iN lo) (iN hi) = false := by
  cases hc : inR (iN k) (iN lo) (iN hi) with
  | false => rfl
  | true =>
    simp only [inR, Bool.and_eq_true, decide_eq_true_eq] at hc
    have a1 := (iN_le (by omega) (by omega)).mp hc.1
    have a2 := (iN_le (by omega) (by omega)).mp hc.2
    omega
theorem has_no {k n m : Nat} (h : n ≤ k) (hk : k < 2147483648) (hn : n ≤ m) (hm : m < 2147483648) : has (iN k) (iN n) (iN m) = false := by
  cases hc : has (iN k) (iN n) (iN m) with
  | false => rfl
  | true =>
    simp only [has, Bool.and_eq_true, decide_eq_true_eq] at hc
    have a1 := (iN_lt (by omega) (by omega)).mp hc.1.2
    omega
theorem sub_eq {x : Int32} {a k : Nat} (h : x - iN a = iN k) : x = iN (a + k) := by
  rw [← iN_add, ← h]
  grind
theorem iN_and31 : ∀ e : Nat, e < 32 → iN e &&& 31 = iN e := by decide
theorem c158 {X : Cx} {d : Nat} {M : Mem} {e : Nat} (he : e < 8) : CC X (d + 1) 158 [vR 100 0, vI (iN e)] M (some (vI (if TM M 23 e = 1 then 1 else 0))) M := by
  have e1 : TM M 23 e = (M.1 101 0 6 >>> iN e) &&& 1 := TW_rd (by simpa [okC] using he)
  refine e158 (w158_0 ?_)
  rw [e1]
  by_cases h : (M.1 101 0 6 >>> iN e) &&& 1 = 1
  · simp only [forall_eq, true_implies, false_implies, not_true_eq_false, not_false_eq_true, and_true, true_and, and_self, isB0, isB1, bI_t0, bI_f0, i10_, i20_, i01_, i02_, i12_, i21_, iN_and31 e (by omega), show ix 6 = 6 from ix_l (by decide), show inb 6 2129 from inb_l (by decide) (by decide), h, if_true]
  · simp only [forall_eq, true_implies, false_implies, not_true_eq_false, not_false_eq_true, and_true, true_and, and_self, isB0, isB1, bI_t0, bI_f0, i10_, i20_, i01_, i02_, i12_, i21_, iN_and31 e (by omega), show ix 6 = 6 from ix_l (by decide), show inb 6 2129 from inb_l (by decide) (by decide), h, if_false]
theorem TM23 {w : Nat → Int32} {e : Nat} : TW w 23 e = 0 ∨ TW w 23 e = 1 := by
  unfold TW
  by_cases h : okC 23 e = true
  · rw [if_pos h]
    show (w 6 >>> iN e) &&& 1 = 0 ∨ (w 6 >>> iN e) &&& 1 = 1
    generalize w 6 >>> iN e = y
    have h2 : (y &&& 1) = 0 ∨ (y &&& 1) = 1 := by
      have a1 : ((y.toBitVec &&& 1#32).toNat) ≤ 1 := by
        rw [BitVec.toNat_and]
        exact Nat.and_le_right
      rcases (show (y.toBitVec &&& 1#32).toNat = 0 ∨ (y.toBitVec &&& 1#32).toNat = 1 by omega) with h3 | h3
      · left
        apply Int32.toBitVec.inj
        exact BitVec.eq_of_toNat_eq h3
      · right
        apply Int32.toBitVec.inj
        exact BitVec.eq_of_toNat_eq h3
    exact h2
  · rw [if_neg h]
    exact Or.inl rfl
theorem c18 {X : Cx} {d : Nat} {M : Mem} {a i j : Nat} {W : Nat → Int32} (h : WayR M a W) (hi : i < 8) (hj : j < 8) : CC X (d + 2) 18 [vR 50 a, vI (iN i), vI (iN j)] M (some (vI (W (479 + (8 * i + j))))) M := by
  have e1 : iN i * 8 + iN j = iN (8 * i + j) := by
    simp only [iN_lit, iN_mul, iN_add]
    rw [Nat.mul_comm]
  refine e18 (w18_0 ⟨_, _, c146, ?_⟩)
  rw [show inR (iN i) 0 7 = true from inR_of (lo := 0) (hi := 7) (by omega) (by omega) (by decide)]
  simp only [forall_eq, true_implies, false_implies, not_true_eq_false, not_false_eq_true, and_true, true_and, and_self, isB0, isB1, bI_t0, bI_f0, i10_, i20_, i01_, i02_, i12_, i21_]
  refine ⟨_, _, c146, ?_⟩
  rw [show inR (iN j) 0 7 = true from inR_of (lo := 0) (hi := 7) (by omega) (by omega) (by decide)]
  simp only [forall_eq, true_implies, false_implies, not_true_eq_false, not_false_eq_true, and_true, true_and, and_self, isB0, isB1, bI_t0, bI_f0, i10_, i20_, i01_, i02_, i12_, i21_, e1, show inb (iN (8 * i + j)) 64 from inb_of (by omega) (by decide), ix_of (show 8 * i + j < 2147483648 by omega)]
  rcases h i j hi hj with ⟨h1, h2⟩ | ⟨l, l1, l2, h1, h2⟩
  · simp only [forall_eq, true_implies, false_implies, not_true_eq_false, not_false_eq_true, and_true, true_and, and_self, isB0, isB1, bI_t0, bI_f0, i10_, i20_, i01_, i02_, i12_, i21_, h1, h2]
  · simp only [forall_eq, true_implies, false_implies, not_true_eq_false, not_false_eq_true, and_true, true_and, and_self, isB0, isB1, bI_t0, bI_f0, i10_, i20_, i01_, i02_, i12_, i21_, h1, h2, iN_ne0 (show 0 < l by omega) (by omega)]
/-- doorOf, both -/
theorem op113 {X : Cx} {d : Nat} {M : Mem} {v q : Int32} (h : LandI M) (hw : WayR M 0 (M.1 101 0)) : ∃ (x : Int32), CC X (d + 4) 113 [vR 2 0, vI v, vI q] M (some (vI x)) M ∧ CC X (d + 4) 233 [vR 100 0, vI v, vI q] M (some (vI x)) M := by
  obtain ⟨hT, hc, -⟩ := h
  obtain ⟨⟨n, hn, n1, n2⟩, ⟨m, hm, m1, m2⟩, -⟩ := land_n hT hc
  have cd (v : Int32) := c56 (X := X) (d := d + 2) (M := M) (a := 0) (v := v)
  rw [m1] at cd
  have rd (v : Int32) := c156 (X := X) (d := d + 1) (M := M) (v := v) m2 hm
  have cf (v : Int32) := c55 (X := X) (d := d + 2) (M := M) (a := 0) (v := v)
  rw [n1] at cf
  have rf (v : Int32) := c155 (X := X) (d := d + 1) (M := M) (v := v) n2 hn
  by_cases hv : has v (iN m) 8 = true
  · have hv0 := hv
    obtain ⟨e, rfl, he⟩ := has_lt (k := 8) hm (by decide) hv
    have e8 : e < 8 := by omega
    by_cases q0 : q = 0
    · subst q0
      refine ⟨TM M 23 e, e113 (w113_0 ⟨_, _, cd _, ?_⟩), e233 (w233_0 ⟨_, _, rd _, ?_⟩)⟩
      · rw [hv]
        simp only [forall_eq, true_implies, false_implies, not_true_eq_false, not_false_eq_true, and_true, true_and, and_self, isB0, isB1, bI_t0, bI_f0, i10_, i20_, i01_, i02_, i12_, i21_, ix_of (show e < 2147483648 by omega), show inb (iN e) 8 from inb_of e8 (by decide), land_c hT (show okC 23 e = true by simpa [okC] using e8)]
      · rw [hv]
        simp only [forall_eq, true_implies, false_implies, not_true_eq_false, not_false_eq_true, and_true, true_and, and_self, isB0, isB1, bI_t0, bI_f0, i10_, i20_, i01_, i02_, i12_, i21_]
        refine ⟨_, _, c158 e8, ?_⟩
        rcases TM23 (w := M.1 101 0) (e := e) with h | h
        · simp only [forall_eq, true_implies, false_implies, not_true_eq_false, not_false_eq_true, and_true, true_and, and_self, isB0, isB1, bI_t0, bI_f0, i10_, i20_, i01_, i02_, i12_, i21_, h, if_false]
        · simp only [forall_eq, true_implies, false_implies, not_true_eq_false, not_false_eq_true, and_true, true_and, and_self, isB0, isB1, bI_t0, bI_f0, i10_, i20_, i01_, i02_, i12_, i21_, h, if_true]
    · by_cases q1 : q = 1
      · subst q1
        have ca := c65 (X := X) (d := d + 1) (M := M) (a := 0) (p := iN e)
        rw [m1, if_pos hv, ix_of (by omega), hT] at ca
        refine ⟨acres (TM M) e, e113 (w113_0 ⟨_, _, cd _, ?_⟩), e233 (w233_0 ⟨_, _, rd _, ?_⟩)⟩
        · rw [hv]
          simp only [forall_eq, true_implies, false_implies, not_true_eq_false, not_false_eq_true, and_true, true_and, and_self, isB0, isB1, bI_t0, bI_f0, i10_, i20_, i01_, i02_, i12_, i21_]
          exact ⟨_, _, ca, rfl, rfl⟩
        · rw [hv]
          simp only [forall_eq, true_implies, false_implies, not_true_eq_false, not_false_eq_true, and_true, true_and, and_self, isB0, isB1, bI_t0, bI_f0, i10_, i20_, i01_, i02_, i12_, i21_]
          exact ⟨_, _, c231 e8, rfl, rfl⟩
      · by_cases q2 : q = 2
        · subst q2
          have ca := c67 (X := X) (d := d) (M := M) (a := 0) (e := iN e) (n := n) (by rw [hT]; exact hc) n1 hn
          rw [hT] at ca
          refine ⟨county (TM M) (iN e) n, e113 (w113_0 ⟨_, _, cd _, ?_⟩), e233 (w233_0 ⟨_, _, rd _, ?_⟩)⟩
          · rw [hv]
            simp only [forall_eq, true_implies, false_implies, not_true_eq_false, not_false_eq_true, and_true, true_and, and_self, isB0, isB1, bI_t0, bI_f0, i10_, i20_, i01_, i02_, i12_, i21_]
            exact ⟨_, _, ca, rfl, rfl⟩
          · rw [hv]
            simp only [forall_eq, true_implies, false_implies, not_true_eq_false, not_false_eq_true, and_true, true_and, and_self, isB0, isB1, bI_t0, bI_f0, i10_, i20_, i01_, i02_, i12_, i21_]
            exact ⟨_, _, c232 hc n2 hn, rfl, rfl⟩
        · by_cases hf : has (q - 10) (iN n) 10 = true
          · obtain ⟨f, hq, hf1⟩ := has_lt (k := 10) hn (by decide) hf
            have hq2 := sub_eq (a := 10) hq
            subst hq2
            have b1 : (iN e * 10 + iN (10 + f)) - 10 = iN (e * 10 + f) := by
              simp only [iN_lit, iN_mul, iN_add]
              rw [show e * 10 + (10 + f) = (e * 10 + f) + 10 by omega, ← iN_add]
              grind
            have b2 : ((29 + (10 * iN e)) + iN (10 + f)) - 10 = iN (29 + (e * 10 + f)) := by
              simp only [iN_lit, iN_mul, iN_add]
              rw [show 29 + 10 * e + (10 + f) = (29 + (e * 10 + f)) + 10 by omega, ← iN_add]
              grind
            refine ⟨TM M 24 (e * 10 + f), e113 (w113_0 ⟨_, _, cd _, ?_⟩), e233 (w233_0 ⟨_, _, rd _, ?_⟩)⟩
            · rw [hv]
              simp only [forall_eq, true_implies, false_implies, not_true_eq_false, not_false_eq_true, and_true, true_and, and_self, isB0, isB1, bI_t0, bI_f0, i10_, i20_, i01_, i02_, i12_, i21_, q0, q1, q2]
              refine ⟨_, _, c146, ?_⟩
              rw [show inR (iN (10 + f)) 10 19 = true from inR_of (lo := 10) (hi := 19) (by omega) (by omega) (by decide)]
              simp only [forall_eq, true_implies, false_implies, not_true_eq_false, not_false_eq_true, and_true, true_and, and_self, isB0, isB1, bI_t0, bI_f0, i10_, i20_, i01_, i02_, i12_, i21_]
              refine ⟨_, _, cf _, ?_⟩
              rw [hf]
              simp only [forall_eq, true_implies, false_implies, not_true_eq_false, not_false_eq_true, and_true, true_and, and_self, isB0, isB1, bI_t0, bI_f0, i10_, i20_, i01_, i02_, i12_, i21_, b1, show inb (iN (e * 10 + f)) 80 from inb_of (by omega) (by decide), ix_of (show e * 10 + f < 2147483648 by omega), land_c hT (okT24 e8 (show f < 10 by omega))]
            · rw [hv]
              simp only [forall_eq, true_implies, false_implies, not_true_eq_false, not_false_eq_true, and_true, true_and, and_self, isB0, isB1, bI_t0, bI_f0, i10_, i20_, i01_, i02_, i12_, i21_, q0, q1, q2]
              refine ⟨_, _, rf _, ?_⟩
              rw [hf]
              simp only [forall_eq, true_implies, false_implies, not_true_eq_false, not_false_eq_true, and_true, true_and, and_self, isB0, isB1, bI_t0, bI_f0, i10_, i20_, i01_, i02_, i12_, i21_, b2, show inb (iN (29 + (e * 10 + f))) 2129 from inb_of (by omega) (by decide), ix_of (show 29 + (e * 10 + f) < 2147483648 by omega), show M.1 101 0 (29 + (e * 10 + f)) = TM M 24 (e * 10 + f) from TW_c (okT24 e8 (show f < 10 by omega))]
          · have hf : has (q - 10) (iN n) 10 = false := by simpa using hf
            by_cases hd : has (q - 20) (iN m) 8 = true
            · obtain ⟨f, hq, hf1⟩ := has_lt (k := 8) hm (by decide) hd
              have hq2 := sub_eq (a := 20) hq
              subst hq2
              have b1 : (iN (20 + f)) - 20 = iN f := by rw [← iN_add]; grind
              have b2 : ((479 + (8 * iN e)) + iN (20 + f)) - 20 = iN (479 + (8 * e + f)) := by
                simp only [iN_lit, iN_mul, iN_add]
                rw [show 479 + 8 * e + (20 + f) = (479 + (8 * e + f)) + 20 by omega, ← iN_add]
                grind
              refine ⟨M.1 101 0 (479 + (8 * e + f)), e113 (w113_0 ⟨_, _, cd _, ?_⟩), e233 (w233_0 ⟨_, _, rd _, ?_⟩)⟩
              · rw [hv]
                simp only [forall_eq, true_implies, false_implies, not_true_eq_false, not_false_eq_true, and_true, true_and, and_self, isB0, isB1, bI_t0, bI_f0, i10_, i20_, i01_, i02_, i12_, i21_, q0, q1, q2]
                refine ⟨_, _, c146, ?_⟩
                rw [show inR (iN (20 + f)) 10 19 = false from inR_no (lo := 10) (hi := 19) (by omega) (by omega) (by decide) (by decide)]
                simp only [forall_eq, true_implies, false_implies, not_true_eq_false, not_false_eq_true, and_true, true_and, and_self, isB0, isB1, bI_t0, bI_f0, i10_, i20_, i01_, i02_, i12_, i21_]
                refine ⟨_, _, c146, ?_⟩
                rw [show inR (iN (20 + f)) 20 27 = true from inR_of (lo := 20) (hi := 27) (by omega) (by omega) (by decide)]
                simp only [forall_eq, true_implies, false_implies, not_true_eq_false, not_false_eq_true, and_true, true_and, and_self, isB0, isB1, bI_t0, bI_f0, i10_, i20_, i01_, i02_, i12_, i21_]
                refine ⟨_, _, cd _, ?_⟩
                rw [hd]
                simp only [forall_eq, true_implies, false_implies, not_true_eq_false, not_false_eq_true, and_true, true_and, and_self, isB0, isB1, bI_t0, bI_f0, i10_, i20_, i01_, i02_, i12_, i21_, b1]
                exact ⟨_, _, c18 hw e8 (by omega), rfl, rfl⟩
              · rw [hv]
                simp only [forall_eq, true_implies, false_implies, not_true_eq_false, not_false_eq_true, and_true, true_and, and_self, isB0, isB1, bI_t0, bI_f0, i10_, i20_, i01_, i02_, i12_, i21_, q0, q1, q2]
                refine ⟨_, _, rf _, ?_⟩
                rw [hf]
                simp only [forall_eq, true_implies, false_implies, not_true_eq_false, not_false_eq_true, and_true, true_and, and_self, isB0, isB1, bI_t0, bI_f0, i10_, i20_, i01_, i02_, i12_, i21_]
                refine ⟨_, _, rd _, ?_⟩
                rw [hd]
                simp only [forall_eq, true_implies, false_implies, not_true_eq_false, not_false_eq_true, and_true, true_and, and_self, isB0, isB1, bI_t0, bI_f0, i10_, i20_, i01_, i02_, i12_, i21_, b2, show inb (iN (479 + (8 * e + f))) 2129 from inb_of (by omega) (by decide), ix_of (show 479 + (8 * e + f) < 2147483648 by omega)]
            · have hd : has (q - 20) (iN m) 8 = false := by simpa using hd
              refine ⟨-2, e113 (w113_0 ⟨_, _, cd _, ?_⟩), e233 (w233_0 ⟨_, _, rd _, ?_⟩)⟩
              · rw [hv]
                simp only [forall_eq, true_implies, false_implies, not_true_eq_false, not_false_eq_true, and_true, true_and, and_self, isB0, isB1, bI_t0, bI_f0, i10_, i20_, i01_, i02_, i12_, i21_, q0, q1, q2]
                have tail : ∃ r1 M5, CC X (d + 3) 146 [vI q, vI 20, vI 27] M (some (vI r1)) M5 ∧ (r1 = 0 → some (vI (-2)) = some (vI (-2)) ∧ M5 = M) ∧ (¬ r1 = 0 → ∃ (r6 : Int32) (M6 : Mem), CC X (d + 3) 56 [vR 20 0, vI (q - 20)] M5 (some (vI r6)) M6 ∧ (r6 = 0 → some (vI (-2)) = some (vI (-2)) ∧ M6 = M) ∧ (¬ r6 = 0 → ∃ (r7 : Int32) (M7 : Mem), CC X (d + 3) 18 [vR 50 0, vI (iN e), vI (q - 20)] M6 (some (vI r7)) M7 ∧ some (vI r7) = some (vI (-2)) ∧ M7 = M)) := by
                  refine ⟨_, _, c146, bI_if (fun _ => ⟨rfl, rfl⟩) (fun _ => ⟨_, _, cd _, ?_⟩)⟩
                  rw [hd]
                  simp only [forall_eq, true_implies, false_implies, not_true_eq_false, not_false_eq_true, and_true, true_and, and_self, isB0, isB1, bI_t0, bI_f0, i10_, i20_, i01_, i02_, i12_, i21_]
                refine ⟨_, _, c146, bI_if (fun _ => ?_) (fun _ => ⟨_, _, cf _, ?_⟩)⟩
                · simpa using tail
                · rw [hf]
                  simp only [forall_eq, true_implies, false_implies, not_true_eq_false, not_false_eq_true, and_true, true_and, and_self, isB0, isB1, bI_t0, bI_f0, i10_, i20_, i01_, i02_, i12_, i21_]
                  simpa using tail
              · rw [hv]
                simp only [forall_eq, true_implies, false_implies, not_true_eq_false, not_false_eq_true, and_true, true_and, and_self, isB0, isB1, bI_t0, bI_f0, i10_, i20_, i01_, i02_, i12_, i21_, q0, q1, q2]
                refine ⟨_, _, rf _, ?_⟩
                rw [hf]
                simp only [forall_eq, true_implies, false_implies, not_true_eq_false, not_false_eq_true, and_true, true_and, and_self, isB0, isB1, bI_t0, bI_f0, i10_, i20_, i01_, i02_, i12_, i21_]
                refine ⟨_, _, rd _, ?_⟩
                rw [hd]
                simp only [forall_eq, true_implies, false_implies, not_true_eq_false, not_false_eq_true, and_true, true_and, and_self, isB0, isB1, bI_t0, bI_f0, i10_, i20_, i01_, i02_, i12_, i21_]
  · have hv : has v (iN m) 8 = false := by simpa using hv
    refine ⟨-2, e113 (w113_0 ⟨_, _, cd _, ?_⟩), e233 (w233_0 ⟨_, _, rd _, ?_⟩)⟩
    · rw [hv]
      simp only [forall_eq, true_implies, false_implies, not_true_eq_false, not_false_eq_true, and_true, true_and, and_self, isB0, isB1, bI_t0, bI_f0, i10_, i20_, i01_, i02_, i12_, i21_]
    · rw [hv]
      simp only [forall_eq, true_implies, false_implies, not_true_eq_false, not_false_eq_true, and_true, true_and, and_self, isB0, isB1, bI_t0, bI_f0, i10_, i20_, i01_, i02_, i12_, i21_]
