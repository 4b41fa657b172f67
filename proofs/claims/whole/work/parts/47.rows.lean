/-! rows of fields, told as a number -/
def urow (v : Int32) : Nat := if 10 ≤ v ∧ v < 20 then 1 else if 100 ≤ v ∧ v < 200 then 2 else if 1000 ≤ v ∧ v < 2000 then 3 else if 10000 ≤ v ∧ v < 20000 then 4 else if 100000 ≤ v ∧ v < 200000 then 5 else if 1000000 ≤ v ∧ v < 2000000 then 6 else 0
theorem urow_le (v : Int32) : urow v ≤ 6 := by
  unfold urow
  repeat' split
  all_goals omega
theorem urow_n {R : Nat} (hR : R < 2147483648) {k : Nat} (hk1 : 1 ≤ k) (hk6 : k ≤ 6) : urow (iN R) = k ↔ (10 ^ k ≤ R ∧ R < 2 * 10 ^ k) := by
  have c (a b : Nat) (ha : a < 2147483648) (hb : b < 2147483648) : (iN a ≤ iN R ∧ iN R < iN b) = (a ≤ R ∧ R < b) := by rw [propext (iN_le ha hR), propext (iN_lt hR hb)]
  unfold urow
  have c1 : ((10 : Int32) ≤ iN R ∧ iN R < 20) = (10 ≤ R ∧ R < 20) := c 10 20 (by decide) (by decide)
  have c2 : ((100 : Int32) ≤ iN R ∧ iN R < 200) = (100 ≤ R ∧ R < 200) := c 100 200 (by decide) (by decide)
  have c3 : ((1000 : Int32) ≤ iN R ∧ iN R < 2000) = (1000 ≤ R ∧ R < 2000) := c 1000 2000 (by decide) (by decide)
  have c4 : ((10000 : Int32) ≤ iN R ∧ iN R < 20000) = (10000 ≤ R ∧ R < 20000) := c 10000 20000 (by decide) (by decide)
  have c5 : ((100000 : Int32) ≤ iN R ∧ iN R < 200000) = (100000 ≤ R ∧ R < 200000) := c 100000 200000 (by decide) (by decide)
  have c6 : ((1000000 : Int32) ≤ iN R ∧ iN R < 2000000) = (1000000 ≤ R ∧ R < 2000000) := c 1000000 2000000 (by decide) (by decide)
  simp only [c1, c2, c3, c4, c5, c6]
  rcases (show k = 1 ∨ k = 2 ∨ k = 3 ∨ k = 4 ∨ k = 5 ∨ k = 6 by omega) with rfl | rfl | rfl | rfl | rfl | rfl <;> (repeat' split) <;> omega
theorem urow_neg {v : Int32} (h : v < 0) : urow v = 0 := by
  have : ∀ a : Nat, a < 2147483648 → ¬ iN a ≤ v := fun a ha z => by
    have := iN_nn ha
    grind
  unfold urow
  rw [if_neg (fun z => this 10 (by decide) z.1), if_neg (fun z => this 100 (by decide) z.1), if_neg (fun z => this 1000 (by decide) z.1), if_neg (fun z => this 10000 (by decide) z.1), if_neg (fun z => this 100000 (by decide) z.1), if_neg (fun z => this 1000000 (by decide) z.1)]
theorem c149_st {X : Cx} {d : Nat} {M : Mem} {v u g : Int32} {Q : Option Vl → Mem → Prop} (hg : ¬ 6 < g) (h1 : ¬ (u * 10 ≤ v ∧ v < 2 * (u * 10))) (hV : V X (d + 1) 149 4 [some (vI v), some (vI (u * 10)), some (vI (g + 1))] [] M Q) : V X (d + 1) 149 4 [some (vI v), some (vI u), some (vI g)] [] M Q :=
  w149_4 ⟨fun z => absurd z hg, fun _ => ⟨fun _ => hV, fun z => ⟨fun _ => hV, fun y => absurd ⟨Int32.not_lt.mp z, Int32.not_le.mp y⟩ h1⟩⟩⟩
theorem c149_any {X : Cx} {d : Nat} {M : Mem} {v : Int32} : CC X (d + 1) 149 [vI v] M (some (vI (if urow v = 0 then 0 else iN (10 ^ urow v)))) M := by
  by_cases h0 : urow v = 0
  · rw [if_pos h0]
    have hn : ¬ (10 ≤ v ∧ v < 20) ∧ ¬ (100 ≤ v ∧ v < 200) ∧ ¬ (1000 ≤ v ∧ v < 2000) ∧ ¬ (10000 ≤ v ∧ v < 20000) ∧ ¬ (100000 ≤ v ∧ v < 200000) ∧ ¬ (1000000 ≤ v ∧ v < 2000000) := by
      unfold urow at h0
      refine ⟨fun z => ?_, fun z => ?_, fun z => ?_, fun z => ?_, fun z => ?_, fun z => ?_⟩ <;> simp [z] at h0 <;> (repeat' split at h0) <;> omega
    obtain ⟨n1, n2, n3, n4, n5, n6⟩ := hn
    refine e149 (w149_0 (c149_st (by decide) n1 (c149_st (by decide) n2 (c149_st (by decide) n3 (c149_st (by decide) n4 (c149_st (by decide) n5 (c149_st (by decide) n6 (w149_4 ⟨fun _ => ⟨rfl, rfl⟩, fun z => absurd (by decide) z⟩))))))))
  · rw [if_neg h0]
    have hv : 0 ≤ v := Int32.not_lt.mp (fun z => h0 (urow_neg z))
    obtain ⟨R, rfl, hR, -⟩ := iN_of hv
    have hk := (urow_n hR (k := urow (iN R)) (by omega) (urow_le _)).mp rfl
    exact c149 (by omega) (urow_le _) hk.1 hk.2
def allF (n : Nat) (fs : List Nat) : Bool := fs.all (fun f => decide (f < n))
theorem allF_iff {n : Nat} {fs : List Nat} : allF n fs = true ↔ ∀ f, f ∈ fs → f < n := by
  unfold allF
  rw [List.all_eq_true]
  exact ⟨fun h f hf => of_decide_eq_true (h f hf), fun h f hf => decide_eq_true (h f hf)⟩
def rowOk (n : Nat) (v : Int32) : Bool := decide (urow v ≠ 0) && allF n (digs (ix v) (urow v))
theorem c59_run {X : Cx} {d a n R : Nat} {M : Mem} (hn : n ≤ 10) (h5 : M.1 20 a 5 = iN n) (hR : R < 2147483648) {Q : Option Vl → Mem → Prop} : ∀ k : Nat, k ≤ 6 → Q (some (vI (bI (allF n (digs R k))))) M → V X (d + 2) 59 14 [some (vR 20 a), some (vI (iN R)), some (vI (iN (unt k)))] [] M Q
  | 0, _, hQ => w59_14 ⟨fun _ => ⟨isB1, hQ⟩, fun z => absurd (by decide) z⟩
  | k + 1, hk, hQ => by
    have hp6 : 10 ^ k ≤ 1000000 := Nat.le_trans (Nat.pow_le_pow_right (by decide) (show k ≤ 6 by omega)) (by decide)
    have hp0 : 0 < 10 ^ k := Nat.pow_pos (by decide)
    refine w59_14 ?_
    rw [unt_s]
    have e1 : iN R / iN (10 ^ k) % 10 = iN (R / 10 ^ k % 10) := by
      have : R / 10 ^ k ≤ R := Nat.div_le_self _ _
      rw [iN_div hR hp0 (by omega), iN_lit 10, iN_mod (by omega) (by decide) (by decide)]
    have e2 : iN (10 ^ k) / 10 = iN (unt k) := by rw [iN_lit 10, iN_div (by omega) (by decide) (by decide)]; rfl
    simp only [forall_eq, true_implies, false_implies, not_true_eq_false, not_false_eq_true, and_true, true_and, and_self, isB0, isB1, bI_t0, bI_f0, i10_, i20_, i01_, i02_, i12_, i21_, show (iN (10 ^ k) ≤ 0) = False from nle_ (b := 0) (by omega) (by decide) hp0, iN_ne0 hp0 (by omega), show ((10 : Int32) = 0) = False from by decide, e1, e2]
    refine ⟨_, _, c55, ?_⟩
    rw [h5]
    have eA : allF n (digs R (k + 1)) = (decide (R / 10 ^ k % 10 < n) && allF n (digs R k)) := rfl
    rw [eA] at hQ
    have hlt : R / 10 ^ k % 10 < 10 := Nat.mod_lt _ (by decide)
    by_cases h : R / 10 ^ k % 10 < n
    · rw [show has (iN (R / 10 ^ k % 10)) (iN n) 10 = true from has_of h hn (by decide)]
      rw [decide_eq_true h] at hQ
      simp only [forall_eq, true_implies, false_implies, not_true_eq_false, not_false_eq_true, and_true, true_and, and_self, isB0, isB1, bI_t0, bI_f0, i10_, i20_, i01_, i02_, i12_, i21_]
      exact c59_run hn h5 hR k (by omega) hQ
    · rw [show has (iN (R / 10 ^ k % 10)) (iN n) 10 = false from has_no (by omega) (by omega) hn (by decide)]
      rw [decide_eq_false h] at hQ
      simp only [forall_eq, true_implies, false_implies, not_true_eq_false, not_false_eq_true, and_true, true_and, and_self, isB0, isB1, bI_t0, bI_f0, i10_, i20_, i01_, i02_, i12_, i21_]
      exact hQ
theorem c59 {X : Cx} {d : Nat} {M : Mem} {a n : Nat} {v : Int32} (hn : n ≤ 10) (h5 : M.1 20 a 5 = iN n) : CC X (d + 2) 59 [vR 20 a, vI v] M (some (vI (bI (rowOk n v)))) M := by
  refine e59 (w59_0 ⟨_, _, c149_any, by decide, ?_⟩)
  unfold rowOk
  by_cases h0 : urow v = 0
  · rw [if_pos h0, h0]
    simp only [forall_eq, true_implies, false_implies, not_true_eq_false, not_false_eq_true, and_true, true_and, and_self, isB0, isB1, bI_t0, bI_f0, i10_, i20_, i01_, i02_, i12_, i21_, show ((0 : Int32) / 10 = 0) = True from by decide]
    rfl
  · rw [if_neg h0]
    have hv : 0 ≤ v := Int32.not_lt.mp (fun z => h0 (urow_neg z))
    obtain ⟨R, rfl, hR, -⟩ := iN_of hv
    have hp6 : 10 ^ urow (iN R) ≤ 1000000 := Nat.le_trans (Nat.pow_le_pow_right (by decide) (urow_le _)) (by decide)
    have e2 : iN (10 ^ urow (iN R)) / 10 = iN (unt (urow (iN R))) := by rw [iN_lit 10, iN_div (by omega) (by decide) (by decide)]; rfl
    obtain ⟨k, hk⟩ : ∃ k, urow (iN R) = k + 1 := ⟨urow (iN R) - 1, by omega⟩
    have hk6 := urow_le (iN R)
    rw [e2, ix_of hR, decide_eq_true (show urow (iN R) ≠ 0 from h0)]
    have hu : 0 < unt (urow (iN R)) ∧ unt (urow (iN R)) < 2147483648 := by
      rw [hk, unt_s]
      have : 10 ^ k ≤ 10 ^ urow (iN R) := Nat.pow_le_pow_right (by decide) (by omega)
      exact ⟨Nat.pow_pos (by decide), by omega⟩
    simp only [forall_eq, true_implies, false_implies, not_true_eq_false, not_false_eq_true, and_true, true_and, and_self, isB0, isB1, bI_t0, bI_f0, i10_, i20_, i01_, i02_, i12_, i21_, iN_ne0 hu.1 hu.2]
    exact c59_run hn h5 hR _ hk6 ⟨by rw [Bool.true_and], rfl⟩
/-! the reference's reading of a row -/
abbrev Wb : Nat → Nat → Nat → Prop := fun c a j => (c = 111 ∧ a = 0) ∨ (c = 100 ∧ a = 0 ∧ j = 28)
theorem digs_get {R : Nat} : ∀ {k j f : Nat}, (digs R k)[j]? = some f → j < k ∧ f = R / 10 ^ (k - 1 - j) % 10
  | 0, j, f, h => by simp [digs] at h
  | k + 1, 0, f, h => by
    simp only [digs, List.getElem?_cons_zero, Option.some.injEq] at h
    exact ⟨by omega, by rw [← h]; rfl⟩
  | k + 1, j + 1, f, h => by
    simp only [digs, List.getElem?_cons_succ] at h
    obtain ⟨h1, h2⟩ := digs_get h
    exact ⟨by omega, by rw [h2, show k + 1 - 1 - (j + 1) = k - 1 - j by omega]⟩
theorem digs_len {R : Nat} : ∀ {k : Nat}, (digs R k).length = k
  | 0 => rfl
  | k + 1 => by
    show (digs R k).length + 1 = k + 1
    rw [digs_len]
def ByD (M : Mem) (R i : Nat) : Prop := M.1 100 0 28 = iN i ∧ ∀ j, j < i → M.1 111 0 j = iN (R / 10 ^ (i - 1 - j) % 10)
theorem ByD.r {M : Mem} {R i : Nat} (h : ByD M R i) (hi : i ≤ 6) : ByR M (digs R i) := ⟨by rw [digs_len]; exact hi, by rw [digs_len]; exact h.1, fun j f hj => by
  obtain ⟨h1, h2⟩ := digs_get hj
  rw [h.2 j h1, h2]⟩
theorem c217_in {X : Cx} {d : Nat} {M : Mem} {R i : Nat} (hR : R < 2147483648) (hi : i < 6) (h : ByD M R i) : ∃ M', ByD M' R (i + 1) ∧ K3 Wb M M' ∧ ∀ Q, V X (d + 2) 217 7 [some (vR 100 0), none, some (vI (iN (R / 10 ^ (i + 1)))), none] [] M' Q → V X (d + 2) 217 27 [some (vR 100 0), none, some (vI (iN (R / 10 ^ i))), some (vI (iN i))] [] M Q := by
  obtain ⟨h1, h2⟩ := h
  obtain ⟨M2, ⟨i1, i2, i3⟩, hV⟩ := for_fwd (n := i) (M := M)
    (I := fun t Mt => (∀ j, i - t < j → j ≤ i → Mt.1 111 0 j = M.1 111 0 (j - 1)) ∧ (∀ j, j ≤ i - t → Mt.1 111 0 j = M.1 111 0 j) ∧ K3 (fun c a _ => c = 111 ∧ a = 0) M Mt)
    (St := fun t Mt Q => V X (d + 2) 217 27 [some (vR 100 0), none, some (vI (iN (R / 10 ^ i))), some (vI (iN (i - t)))] [] Mt Q)
    (by
      rintro t Mt ht ⟨g1, g2, g3⟩
      obtain ⟨u, hu⟩ : ∃ u, i - t = u + 1 := ⟨i - t - 1, by omega⟩
      refine ⟨st Mt 111 0 (i - t) (M.1 111 0 (i - t - 1)), ⟨fun j q1 q2 => ?_, fun j q1 => ?_, k3_trans g3 (k3_st ⟨rfl, rfl⟩)⟩, fun Q hQ => w217_27 ?_⟩
      · by_cases hj : j = i - t
        · subst hj
          rw [st_at]
        · rw [st_ne3 (by omega)]
          exact g1 j (by omega) q2
      · rw [st_ne3 (by omega)]
        exact g2 j (by omega)
      · have e3 : i - (t + 1) = u := by omega
        rw [e3] at hQ
        rw [hu] at hQ ⊢
        simp only [forall_eq, true_implies, false_implies, not_true_eq_false, not_false_eq_true, and_true, true_and, and_self, isB0, isB1, bI_t0, bI_f0, i10_, i20_, i01_, i02_, i12_, i21_, show (iN (u + 1) ≤ 0) = False from nle_ (b := 0) (by omega) (by decide) (by omega), iN_m1, iN_pred, show inb (iN u) 6 from inb_of (by omega) (by decide), show inb (iN (u + 1)) 6 from inb_of (by omega) (by decide), ix_of (show u < 2147483648 by omega), ix_of (show u + 1 < 2147483648 by omega), g2 u (by omega)]
        exact hQ)
    ⟨fun j q1 q2 => absurd q1 (by omega), fun j _ => rfl, k3_refl⟩
  have r28 : M2.1 100 0 28 = iN i := by rw [i3 100 0 28 (by simp)]; exact h1
  have hd : R / 10 ^ i ≤ R := Nat.div_le_self _ _
  refine ⟨st (st M2 111 0 0 (iN (R / 10 ^ i % 10))) 100 0 28 (iN (i + 1)), ⟨st_at, fun j hj => ?_⟩, k3_trans (k3_trans (k3_sub i3 (fun c a j z => Or.inl z)) (k3_st (Or.inl ⟨rfl, rfl⟩))) (k3_st (Or.inr ⟨rfl, rfl, rfl⟩)), fun Q hQ => ?_⟩
  · rw [st_ne3 (fun z => absurd z.1 (by decide))]
    by_cases hj0 : j = 0
    · subst hj0
      rw [st_at]
      rfl
    · rw [st_ne3 (by omega), i1 j (by omega) (by omega), h2 (j - 1) (by omega), show i - 1 - (j - 1) = i + 1 - 1 - j by omega]
  · have := hV Q
    rw [Nat.sub_zero, Nat.sub_self] at this
    refine this (w217_27 ?_)
    have e1 : iN (R / 10 ^ i) % 10 = iN (R / 10 ^ i % 10) := by rw [iN_lit 10, iN_mod (by omega) (by decide) (by decide)]
    have e2 : iN (R / 10 ^ i) / 10 = iN (R / 10 ^ (i + 1)) := by rw [iN_lit 10, iN_div (by omega) (by decide) (by decide), Nat.div_div_eq_div_mul, ← Nat.pow_succ]
    have r28' : ∀ y, (st M2 111 0 0 y).1 100 0 28 = iN i := fun y => by rw [st_ne3 (fun z => absurd z.1 (by decide))]; exact r28
    simp only [forall_eq, true_implies, false_implies, not_true_eq_false, not_false_eq_true, and_true, true_and, and_self, isB0, isB1, bI_t0, bI_f0, i10_, i20_, i01_, i02_, i12_, i21_, show ((iN 0 : Int32) ≤ 0) = True from by decide, show ((10 : Int32) = 0) = False from by decide, show inb 0 6 from inb_l (by decide) (by decide), show ix 0 = 0 from ix_l (by decide), e1, e2, r28', iN_step]
    exact hQ
theorem c217_out {X : Cx} {d : Nat} {R : Nat} (hR : R < 2147483648) : ∀ (t i : Nat) (M : Mem), i + t = 6 → ByD M R i → ∃ i' M', i' ≤ 6 ∧ (R / 10 ^ i' ≤ 9 ∨ i' = 6) ∧ (∀ q, i ≤ q → q < i' → 9 < R / 10 ^ q) ∧ i ≤ i' ∧ ByD M' R i' ∧ K3 Wb M M' ∧ ∀ Q : Option Vl → Mem → Prop, ((¬ iN (R / 10 ^ i') = 1 → Q (some (vI 0)) M') ∧ (iN (R / 10 ^ i') = 1 → (¬ M'.1 100 0 28 = 0 → V X (d + 2) 217 95 [some (vR 100 0), none, none, some (vI 0)] [] M' Q) ∧ (M'.1 100 0 28 = 0 → Q (some (vI 0)) M'))) → V X (d + 2) 217 7 [some (vR 100 0), none, some (vI (iN (R / 10 ^ i))), none] [] M Q
  | 0, i, M, hi, h => by
    have hi : i = 6 := hi
    subst hi
    refine ⟨6, M, by decide, Or.inr rfl, fun q q1 q2 => absurd q2 (by omega), by decide, h, k3_refl, fun Q hQ => w217_7 ?_⟩
    have h28 := h.1
    rw [h28] at hQ
    by_cases h9 : iN (R / 10 ^ 6) ≤ 9
    · simp only [forall_eq, true_implies, false_implies, not_true_eq_false, not_false_eq_true, and_true, true_and, and_self, isB0, isB1, bI_t0, bI_f0, i10_, i20_, i01_, i02_, i12_, i21_, h9, h28]
      exact hQ
    · simp only [forall_eq, true_implies, false_implies, not_true_eq_false, not_false_eq_true, and_true, true_and, and_self, isB0, isB1, bI_t0, bI_f0, i10_, i20_, i01_, i02_, i12_, i21_, h9, h28, show ((6 : Int32) ≤ iN 6) = True from by decide]
      exact hQ
  | t + 1, i, M, hi, h => by
    have hd : R / 10 ^ i ≤ R := Nat.div_le_self _ _
    by_cases h9 : R / 10 ^ i ≤ 9
    · refine ⟨i, M, by omega, Or.inl h9, fun q q1 q2 => absurd q2 (by omega), Nat.le_refl _, h, k3_refl, fun Q hQ => w217_7 ?_⟩
      simp only [forall_eq, true_implies, false_implies, not_true_eq_false, not_false_eq_true, and_true, true_and, and_self, isB0, isB1, bI_t0, bI_f0, i10_, i20_, i01_, i02_, i12_, i21_, show (iN (R / 10 ^ i) ≤ 9) = True from yle_ (b := 9) (by omega) (by decide) h9]
      exact hQ
    · obtain ⟨M1, b1, k1, g1⟩ := c217_in (X := X) (d := d) hR (show i < 6 by omega) h
      obtain ⟨i', M', a1, a2, a3, a4, a5, a6, a7⟩ := c217_out (X := X) (d := d) hR t (i + 1) M1 (by omega) b1
      refine ⟨i', M', a1, a2, fun q q1 q2 => ?_, by omega, a5, k3_trans k1 a6, fun Q hQ => w217_7 ?_⟩
      · by_cases hqi : q = i
        · subst hqi
          omega
        · exact a3 q (by omega) q2
      · simp only [forall_eq, true_implies, false_implies, not_true_eq_false, not_false_eq_true, and_true, true_and, and_self, isB0, isB1, bI_t0, bI_f0, i10_, i20_, i01_, i02_, i12_, i21_, show (iN (R / 10 ^ i) ≤ 9) = False from nle_ (b := 9) (by omega) (by decide) (by omega), h.1, show (6 ≤ iN i) = False from nle_ (a := 6) (by decide) (by omega) (by omega)]
        exact g1 Q (a7 Q hQ)
theorem c217_all {X : Cx} {d n k : Nat} {M : Mem} (hn : n ≤ 10) (h5 : M.1 101 0 229 = iN n) (hk : k ≤ 6) (h28 : M.1 100 0 28 = iN k) {Q : Option Vl → Mem → Prop} : ∀ (fs : List Nat) (j : Nat), j + fs.length = k → (∀ (i f : Nat), fs[i]? = some f → M.1 111 0 (j + i) = iN f ∧ f < 10) → Q (some (vI (bI (allF n fs)))) M → V X (d + 3) 217 95 [some (vR 100 0), none, none, some (vI (iN j))] [] M Q
  | [], j, hj, _, hQ => by
    have hj : j = k := hj
    subst hj
    refine w217_95 ?_
    simp only [forall_eq, true_implies, false_implies, not_true_eq_false, not_false_eq_true, and_true, true_and, and_self, isB0, isB1, bI_t0, bI_f0, i10_, i20_, i01_, i02_, i12_, i21_, h28, yle_ (a := j) (b := j) (by omega) (by omega) (Nat.le_refl _)]
    exact hQ
  | f :: fs, j, hj, hby, hQ => by
    simp only [List.length_cons] at hj
    have hb0 := hby 0 f rfl
    rw [Nat.add_zero] at hb0
    refine w217_95 ?_
    simp only [forall_eq, true_implies, false_implies, not_true_eq_false, not_false_eq_true, and_true, true_and, and_self, isB0, isB1, bI_t0, bI_f0, i10_, i20_, i01_, i02_, i12_, i21_, h28, nle_ (a := k) (b := j) (by omega) (by omega) (by omega), show inb (iN j) 6 from inb_of (by omega) (by decide), ix_of (show j < 2147483648 by omega), hb0.1, iN_step]
    refine ⟨_, _, c155 h5 hn, ?_⟩
    have eA : allF n (f :: fs) = (decide (f < n) && allF n fs) := rfl
    rw [eA] at hQ
    by_cases h : f < n
    · rw [show has (iN f) (iN n) 10 = true from has_of h hn (by decide)]
      rw [decide_eq_true h] at hQ
      simp only [forall_eq, true_implies, false_implies, not_true_eq_false, not_false_eq_true, and_true, true_and, and_self, isB0, isB1, bI_t0, bI_f0, i10_, i20_, i01_, i02_, i12_, i21_]
      exact c217_all hn h5 hk h28 fs (j + 1) (by omega) (fun i g hi => by
        rw [show j + 1 + i = j + (i + 1) by omega]
        exact hby (i + 1) g hi) hQ
    · rw [show has (iN f) (iN n) 10 = false from has_no (by omega) (by omega) hn (by decide)]
      rw [decide_eq_false h] at hQ
      simp only [forall_eq, true_implies, false_implies, not_true_eq_false, not_false_eq_true, and_true, true_and, and_self, isB0, isB1, bI_t0, bI_f0, i10_, i20_, i01_, i02_, i12_, i21_]
      exact hQ
theorem c217 {X : Cx} {d : Nat} {M : Mem} {n : Nat} {v : Int32} (hn : n ≤ 10) (h5 : M.1 101 0 229 = iN n) : ∃ M', CC X (d + 3) 217 [vR 100 0, vI v] M (some (vI (bI (rowOk n v)))) M' ∧ (rowOk n v = true → ByR M' (digs (ix v) (urow v))) ∧ K3 Wb M M' := by
  have k0 : K3 Wb M (st M 100 0 28 0) := k3_st (Or.inr ⟨rfl, rfl, rfl⟩)
  by_cases hneg : v < 0
  · have hu := urow_neg hneg
    have hr : rowOk n v = false := by unfold rowOk; rw [hu]; rfl
    rw [hr]
    refine ⟨st M 100 0 28 0, e217 (w217_0 ?_), (fun z => by cases z), k0⟩
    rintro M1 rfl
    refine w217_7 ?_
    have h9 : v ≤ 9 := by
      have : (0 : Int32) ≤ 9 := by decide
      grind
    have h1 : ¬ v = 1 := fun z => by rw [z] at hneg; exact absurd hneg (by decide)
    simp only [forall_eq, true_implies, false_implies, not_true_eq_false, not_false_eq_true, and_true, true_and, and_self, isB0, isB1, bI_t0, bI_f0, i10_, i20_, i01_, i02_, i12_, i21_, h9, h1]
    rfl
  · obtain ⟨R, rfl, hR, -⟩ := iN_of (Int32.not_lt.mp hneg)
    obtain ⟨i', M', a1, a2, a3, a4, a5, a6, a7⟩ := c217_out (X := X) (d := d + 1) hR 6 0 (st M 100 0 28 0) (by decide) ⟨st_at, fun j hj => absurd hj (by omega)⟩
    rw [Nat.pow_zero, Nat.div_one] at a7
    have kk := k3_trans k0 a6
    refine ⟨M', e217 (w217_0 ?_), fun hr => ?_, kk⟩
    · rintro M1 rfl
      have hd : R / 10 ^ i' ≤ R := Nat.div_le_self _ _
      refine a7 _ ⟨fun z => ⟨?_, rfl⟩, fun z => ⟨fun y => ?_, fun y => ⟨?_, rfl⟩⟩⟩
      · have hz : R / 10 ^ i' ≠ 1 := fun q => z (by rw [q]; rfl)
        have : urow (iN R) = 0 := by
          by_cases hu : urow (iN R) = 0
          · exact hu
          · have hk := (urow_n hR (k := urow (iN R)) (by omega) (urow_le _)).mp rfl
            have h1 : R / 10 ^ urow (iN R) = 1 := by
              rw [Nat.div_eq_iff (Nat.pow_pos (by decide))]
              omega
            rcases Nat.lt_trichotomy (urow (iN R)) i' with hlt | heq | hgt
            · have := a3 _ (Nat.zero_le _) hlt
              omega
            · rw [heq] at h1
              exact absurd h1 hz
            · have hle : R / 10 ^ i' ≤ 9 := by
                rcases a2 with h | h
                · exact h
                · have := urow_le (iN R)
                  omega
              have h2 : R / 10 ^ urow (iN R) = R / 10 ^ i' / 10 ^ (urow (iN R) - i') := by
                rw [Nat.div_div_eq_div_mul, ← Nat.pow_add, Nat.add_sub_cancel' (by omega)]
              have h3 : 10 ≤ 10 ^ (urow (iN R) - i') := by
                have : 10 ^ 1 ≤ 10 ^ (urow (iN R) - i') := Nat.pow_le_pow_right (by decide) (by omega)
                omega
              have h4 : R / 10 ^ i' / 10 ^ (urow (iN R) - i') = 0 := Nat.div_eq_of_lt (by omega)
              omega
        unfold rowOk
        rw [this]
        rfl
      · have h1 : R / 10 ^ i' = 1 := (iN_inj (b := 1) (by omega) (by decide)).mp z
        have hi0 : i' ≠ 0 := fun q => y (by rw [a5.1, q]; rfl)
        have hp := Nat.pow_pos (n := i') (show 0 < 10 by decide)
        have hm := (Nat.div_eq_iff hp).mp h1
        have hu : urow (iN R) = i' := (urow_n hR (by omega) a1).mpr (by omega)
        have w5 : M'.1 101 0 229 = iN n := by rw [kk 101 0 229 (by simp [Wb])]; exact h5
        refine c217_all hn w5 a1 a5.1 (digs R i') 0 (by rw [digs_len]; omega) (fun i f hi => ?_) ⟨?_, rfl⟩
        · obtain ⟨q1, q2⟩ := digs_get hi
          rw [Nat.zero_add, a5.2 i q1, q2]
          exact ⟨rfl, Nat.mod_lt _ (by decide)⟩
        · unfold rowOk
          rw [hu, ix_of hR, decide_eq_true hi0, Bool.true_and]
      · have hi0 : i' = 0 := by
          rw [a5.1] at y
          exact (iN_inj (b := 0) (by omega) (by decide)).mp y
        subst hi0
        have h1 : R / 10 ^ 0 = 1 := (iN_inj (b := 1) (by omega) (by decide)).mp z
        rw [Nat.pow_zero, Nat.div_one] at h1
        subst h1
        rfl
    · have hu0 : urow (iN R) ≠ 0 := by
        unfold rowOk at hr
        simp only [Bool.and_eq_true, decide_eq_true_eq] at hr
        exact hr.1
      have hk := (urow_n hR (k := urow (iN R)) (by omega) (urow_le _)).mp rfl
      have h1 : R / 10 ^ urow (iN R) = 1 := by
        rw [Nat.div_eq_iff (Nat.pow_pos (by decide))]
        omega
      have hi : i' = urow (iN R) := by
        rcases Nat.lt_trichotomy (urow (iN R)) i' with hlt | heq | hgt
        · have := a3 _ (Nat.zero_le _) hlt
          omega
        · exact heq.symm
        · have hle : R / 10 ^ i' ≤ 9 := by
            rcases a2 with h | h
            · exact h
            · have := urow_le (iN R)
              omega
          have h2 : R / 10 ^ urow (iN R) = R / 10 ^ i' / 10 ^ (urow (iN R) - i') := by
            rw [Nat.div_div_eq_div_mul, ← Nat.pow_add, Nat.add_sub_cancel' (by omega)]
          have h3 : 10 ≤ 10 ^ (urow (iN R) - i') := by
            have : 10 ^ 1 ≤ 10 ^ (urow (iN R) - i') := Nat.pow_le_pow_right (by decide) (by omega)
            omega
          have h4 : R / 10 ^ i' / 10 ^ (urow (iN R) - i') = 0 := Nat.div_eq_of_lt (by omega)
          omega
      rw [ix_of hR, ← hi]
      exact a5.r a1
