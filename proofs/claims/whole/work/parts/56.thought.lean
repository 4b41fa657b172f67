/-! in thought: goes, would, many -/
abbrev ThC : Nat → Nat → Nat → Prop := fun c a j => (c = 12 ∧ a = 1) ∨ c = 47 ∨ (a = 1 ∧ 20 ≤ c ∧ c < 30) ∨ (c = 11 ∧ a = 1 ∧ j = 5) ∨ (c = 30 ∧ a = 1 ∧ 1 ≤ j)
abbrev ThR : Nat → Nat → Nat → Prop := fun c a j => c = 109 ∨ c = 110 ∨ (c = 111 ∧ a = 0) ∨ (c = 104 ∧ a = 0) ∨ (c = 100 ∧ (j = 26 ∨ j = 28 ∨ j = 29))
abbrev ThW : Nat → Nat → Nat → Prop := fun c a j => ThR c a j ∨ (c = 101 ∧ a = 0 ∧ j < 229)
abbrev ThP : Nat → Nat → Nat → Prop := fun c a j => ThC c a j ∨ ThR c a j
theorem th_w {M M' : Mem} {lc : Nat} (k : K3 Wd M M') (b : BkM (M'.1 101 0) (lc, fun j => M.1 101 0 (645 + j))) : K3 ThW M M' := fun c a j hp => by
  by_cases h : Wd c a j
  · have h2 : c = 101 ∧ a = 0 ∧ 645 ≤ j ∧ j < 1245 := by
      simp only [Wd, Wm, Wb] at h
      simp only [ThW, ThR] at hp
      omega
    obtain ⟨rfl, rfl, h3, h4⟩ := h2
    have := b.2.2 (j - 645) (by omega)
    rw [show 645 + (j - 645) = j by omega] at this
    rw [this]
    show M.1 101 0 (645 + (j - 645)) = _
    rw [show 645 + (j - 645) = j by omega]
  · exact k c a j h
theorem th_c {M M' : Mem} {m : Nat} (k : K3 (Wv 1) M M') (h0 : M.1 30 1 0 = iN m) (b : BkC M' 1 (m, M.1 31 1)) : K3 ThC M M' := fun c a j hp => by
  by_cases h : Wv 1 c a j
  · have h2 : (c = 30 ∧ a = 1 ∧ j = 0) ∨ (c = 31 ∧ a = 1) := by
      simp only [Wv, Wk] at h
      simp only [ThC] at hp
      omega
    rcases h2 with ⟨rfl, rfl, rfl⟩ | ⟨rfl, rfl⟩
    · rw [b.2.1, h0]
    · rw [b.2.2]
  · exact k c a j h
theorem c236 {X : Cx} {d : Nat} {M : Mem} : ∃ M', CC X (d + 1) 236 [vR 100 0] M none M' ∧ (∀ k, k < 229 → M'.1 104 0 k = M.1 101 0 k) ∧ M'.1 100 0 26 = 0 ∧ K3 (fun c a j => (c = 104 ∧ a = 0) ∨ (c = 100 ∧ a = 0 ∧ j = 26)) M M' := by
  obtain ⟨M2, ⟨i1, i3⟩, hV⟩ := for_fwd (n := 229) (M := M)
    (I := fun t Mt => (∀ k, k < t → Mt.1 104 0 k = M.1 101 0 k) ∧ K3 (fun c a j => c = 104 ∧ a = 0) M Mt)
    (St := fun t Mt Q => V X (d + 1) 236 2 [some (vR 100 0), some (vI (iN t))] [] Mt Q)
    (by
      rintro t Mt ht ⟨g1, g3⟩
      refine ⟨st Mt 104 0 t (M.1 101 0 t), ⟨fun k hk => ?_, k3_trans g3 (k3_st ⟨rfl, rfl⟩)⟩, fun Q hQ => w236_2 ?_⟩
      · by_cases hkt : k = t
        · subst hkt
          rw [st_at]
        · rw [st_ne3 (by omega)]
          exact g1 k (by omega)
      · simp only [forall_eq, true_implies, false_implies, not_true_eq_false, not_false_eq_true, and_true, true_and, and_self, isB0, isB1, bI_t0, bI_f0, i10_, i20_, i01_, i02_, i12_, i21_, show (229 ≤ iN t) = False from nle_ (a := 229) (by decide) (by omega) ht, show inb (iN t) 2129 from inb_of (by omega) (by decide), show inb (iN t) 229 from inb_of (by omega) (by decide), ix_of (show t < 2147483648 by omega), show Mt.1 101 0 t = M.1 101 0 t from g3 101 0 _ (by omega), iN_step]
        exact hQ)
    ⟨fun k hk => absurd hk (by omega), k3_refl⟩
  refine ⟨st M2 100 0 26 0, e236 (w236_0 (hV _ (w236_2 ?_))), fun k hk => ?_, st_at, k3_trans (k3_sub i3 (fun c a j z => Or.inl z)) (k3_st (Or.inr ⟨rfl, rfl, rfl⟩))⟩
  · simp only [forall_eq, true_implies, false_implies, not_true_eq_false, not_false_eq_true, and_true, true_and, and_self, isB0, isB1, bI_t0, bI_f0, i10_, i20_, i01_, i02_, i12_, i21_, show ((229 : Int32) ≤ iN 229) = True from by decide]
  · rw [st_ne3 (fun z => absurd z.1 (by decide))]
    exact i1 k hk
theorem c237 {X : Cx} {d : Nat} {M : Mem} : ∃ M', CC X (d + 1) 237 [vR 100 0] M none M' ∧ (∀ k, k < 229 → M'.1 101 0 k = M.1 104 0 k) ∧ K3 (fun c a j => c = 101 ∧ a = 0 ∧ j < 229) M M' := by
  obtain ⟨M2, ⟨i1, i3⟩, hV⟩ := for_fwd (n := 229) (M := M)
    (I := fun t Mt => (∀ k, k < t → Mt.1 101 0 k = M.1 104 0 k) ∧ K3 (fun c a j => c = 101 ∧ a = 0 ∧ j < 229) M Mt)
    (St := fun t Mt Q => V X (d + 1) 237 2 [some (vR 100 0), some (vI (iN t))] [] Mt Q)
    (by
      rintro t Mt ht ⟨g1, g3⟩
      refine ⟨st Mt 101 0 t (M.1 104 0 t), ⟨fun k hk => ?_, k3_trans g3 (k3_st ⟨rfl, rfl, ht⟩)⟩, fun Q hQ => w237_2 ?_⟩
      · by_cases hkt : k = t
        · subst hkt
          rw [st_at]
        · rw [st_ne3 (by omega)]
          exact g1 k (by omega)
      · simp only [forall_eq, true_implies, false_implies, not_true_eq_false, not_false_eq_true, and_true, true_and, and_self, isB0, isB1, bI_t0, bI_f0, i10_, i20_, i01_, i02_, i12_, i21_, show (229 ≤ iN t) = False from nle_ (a := 229) (by decide) (by omega) ht, show inb (iN t) 2129 from inb_of (by omega) (by decide), show inb (iN t) 229 from inb_of (by omega) (by decide), ix_of (show t < 2147483648 by omega), show Mt.1 104 0 t = M.1 104 0 t from g3 104 0 _ (by omega), iN_step]
        exact hQ)
    ⟨fun k hk => absurd hk (by omega), k3_refl⟩
  refine ⟨M2, e237 (w237_0 (hV _ (w237_2 ?_))), i1, i3⟩
  simp only [forall_eq, true_implies, false_implies, not_true_eq_false, not_false_eq_true, and_true, true_and, and_self, isB0, isB1, bI_t0, bI_f0, i10_, i20_, i01_, i02_, i12_, i21_, show ((229 : Int32) ≤ iN 229) = True from by decide]
/-- laid aside and put back: the row is as it was -/
theorem th_back {M M1 M2 M3 : Mem} (h1 : ∀ k, k < 229 → M1.1 104 0 k = M.1 101 0 k) (k1 : K3 (fun c a j => (c = 104 ∧ a = 0) ∨ (c = 100 ∧ a = 0 ∧ j = 26)) M M1) (k2 : K3 ThW M1 M2) (h4 : ∀ k, k < 229 → M2.1 104 0 k = M1.1 104 0 k) (h3 : ∀ k, k < 229 → M3.1 101 0 k = M2.1 104 0 k) (k3 : K3 (fun c a j => c = 101 ∧ a = 0 ∧ j < 229) M2 M3) : K3 ThR M M3 := fun c a j hp => by
  by_cases h : c = 101 ∧ a = 0 ∧ j < 229
  · obtain ⟨rfl, rfl, hj⟩ := h
    rw [h3 j hj, h4 j hj, h1 j hj]
  · rw [k3 c a j h, k2 c a j (fun z => z.elim hp h), k1 c a j (fun z => hp (by simp only [ThR]; omega))]
theorem callsS_f {L : Lw} {n6 : Nat} : ∀ {C : Cl} {T : Ld}, (callsS L n6 false T C).2.2 = []
  | [], _ => rfl
  | (y, p, R, k, e) :: C, T => by
    unfold callsS
    split
    · show visE T p _ false ++ (callsS L n6 false _ C).2.2 = []
      rw [callsS_f]
      rfl
    · exact callsS_f
theorem dropA_f {T : Ld} {n5 : Nat} : ∀ {p : Nat}, (dropA T n5 false p).2 = []
  | 0 => rfl
  | p + 1 => by
    show (dropA T n5 false p).2 ++ dropE _ p _ false = []
    rw [dropA_f]
    unfold dropE
    rw [if_neg (fun z => absurd z.1 (by decide))]
    rfl
theorem dayS_f {L : Lw} {C : Cl} {S : Sk} {n5 n6 n7 : Nat} {T : Ld} : (dayS L C S n5 n6 n7 false T).2.2 = [] := by
  unfold dayS
  show (callsS L n6 false (skyS T S) C).2.2 ++ _ = []
  rw [callsS_f]
  split
  · exact dropA_f
  · rfl
def dN (L : Lw) (C : Cl) (S : Sk) (n5 n6 n7 : Nat) (T : Ld) : Nat → Ld
  | 0 => T
  | i + 1 => (dayS L C S n5 n6 n7 false (dN L C S n5 n6 n7 T i)).1
theorem dN_v {L : Lw} {C : Cl} {S : Sk} {n5 n6 n7 B : Nat} {T : Ld} (hv : VTn B T n5 n6 n7) (hc : ClT C n5 n6 n7) : ∀ {i : Nat}, VTn (B + 2520 * i) (dN L C S n5 n6 n7 T i) n5 n6 n7
  | 0 => hv
  | i + 1 => by
    rw [show B + 2520 * (i + 1) = B + 2520 * i + 2520 by omega]
    exact dayS_v (dN_v hv hc) hc
theorem ThC_l : ∀ c b j, ThC c b j → c ≠ 40 ∧ c ≠ 42 ∧ c ≠ 43 ∧ c ≠ 44 ∧ c ≠ 45 ∧ c ≠ 46 := by
  intro c b j h
  simp only [ThC] at h
  omega
theorem ThC_n : ∀ c e j, ThC c e j → ¬ (50 ≤ c ∧ c < 60) := by
  intro c e j h
  simp only [ThC] at h
  omega
theorem c54_th {M M' : Mem} (k : K3 (fun c e _ => e = 1 ∧ 20 ≤ c ∧ c < 30) M M') : K3 ThC M M' := k3_sub k (fun c e j z => Or.inr (Or.inr (Or.inl z)))
theorem heldS_e : ∀ (x : Int32), x + 0 = x := Int32.add_zero
def heldS (T : Ld) : Nat → Int32
  | 0 => 0
  | f + 1 => if holder T f = -1 then heldS T f else heldS T f + 1
theorem c64 {X : Cx} {d : Nat} {M : Mem} {a n : Nat} (hn : n ≤ 12) (h : M.1 20 a 7 = iN n) : CC X (d + 3) 64 [vR 20 a] M (some (vI (sumI (fun p => load (TC M a) p) n))) M := by
  refine e64 (w64_0 ?_)
  refine for_up (P := fun j => V X (d + 3) 64 4 [some (vR 20 a), some (vI (sumI (fun p => load (TC M a) p) j)), some (vI (iN j))] [] M _) (n := n) (fun j hj hP => w64_4 ?_) (w64_4 ?_)
  · simp only [forall_eq, true_implies, false_implies, not_true_eq_false, not_false_eq_true, and_true, true_and, and_self, isB0, isB1, bI_t0, bI_f0, i10_, i20_, i01_, i02_, i12_, i21_, h, nle_ (a := n) (b := j) (by omega) (by omega) hj, iN_step]
    have c := c63 (X := X) (d := d) (M := M) (a := a) (p := iN j)
    rw [h, if_pos (show has (iN j) (iN n) 12 = true from has_of hj hn (by decide)), ix_of (by omega)] at c
    exact ⟨_, _, c, hP⟩
  · simp only [forall_eq, true_implies, false_implies, not_true_eq_false, not_false_eq_true, and_true, true_and, and_self, isB0, isB1, bI_t0, bI_f0, i10_, i20_, i01_, i02_, i12_, i21_, h, yle_ (a := n) (b := n) (by omega) (by omega) (Nat.le_refl _)]
theorem c68 {X : Cx} {d : Nat} {M : Mem} {a n : Nat} (hc : cntT (TC M a)) (hn : n ≤ 10) (h : M.1 20 a 5 = iN n) : CC X (d + 3) 68 [vR 20 a] M (some (vI (heldS (TC M a) n))) M := by
  refine e68 (w68_0 ?_)
  refine for_up (P := fun j => V X (d + 3) 68 4 [some (vR 20 a), some (vI (heldS (TC M a) j)), some (vI (iN j))] [] M _) (n := n) (fun j hj hP => w68_4 ?_) (w68_4 ?_)
  · simp only [forall_eq, true_implies, false_implies, not_true_eq_false, not_false_eq_true, and_true, true_and, and_self, isB0, isB1, bI_t0, bI_f0, i10_, i20_, i01_, i02_, i12_, i21_, h, nle_ (a := n) (b := j) (by omega) (by omega) hj, iN_step]
    refine ⟨_, _, c66 hc (by rw [h]; exact (iN_lt (by omega) (by omega)).mpr hj) (by omega), fun z => ?_, fun z => ?_⟩
    · have e : heldS (TC M a) (j + 1) = heldS (TC M a) j := if_pos z
      rw [e] at hP
      exact hP
    · have e : heldS (TC M a) (j + 1) = heldS (TC M a) j + 1 := if_neg z
      rw [e] at hP
      exact hP
  · simp only [forall_eq, true_implies, false_implies, not_true_eq_false, not_false_eq_true, and_true, true_and, and_self, isB0, isB1, bI_t0, bI_f0, i10_, i20_, i01_, i02_, i12_, i21_, h, yle_ (a := n) (b := n) (by omega) (by omega) (Nat.le_refl _)]
/-- what goes answers of a land -/
def gotS (T : Ld) (n5 n7 : Nat) (q : Int32) : Int32 := if q = 0 then T 20 3 else if q = 1 then sumI (fun p => load T p) n7 else heldS T n5
theorem c238_end {X : Cx} {d : Nat} {M : Mem} {B n5 n6 n7 : Nat} {q : Int32} (hv : VTn B (TM M) n5 n6 n7) (hq : q = 0 ∨ q = 1 ∨ q = 2) : ∃ M', (∀ k, k < 229 → M'.1 101 0 k = M.1 104 0 k) ∧ K3 (fun c a j => c = 101 ∧ a = 0 ∧ j < 229) M M' ∧ ∀ Q : Option Vl → Mem → Prop, Q (some (vI (gotS (TM M) n5 n7 q))) M' → V X (d + 2) 238 61 [some (vR 100 0), none, some (vI q), some (vI (if q = 0 then TM M 20 3 else 0)), some (vI 0)] [] M Q := by
  obtain ⟨c5, c6, c7, q5, q6, q7⟩ := vt_m hv
  obtain ⟨M', p1, p2, p3⟩ := c237 (X := X) (d := d) (M := M)
  have hcnt : cntT (TM M) := (VT.cnt ⟨n5, n6, n7, hv⟩)
  have i231 : inb 231 2129 := inb_l (by decide) (by decide)
  have x231 : ix 231 = 231 := ix_l (by decide)
  have i229 : inb 229 2129 := inb_l (by decide) (by decide)
  have x229 : ix 229 = 229 := ix_l (by decide)
  have fin : ∀ (Q : Option Vl → Mem → Prop) (x : Int32), ¬ q = 2 → Q (some (vI x)) M' → V X (d + 2) 238 97 [some (vR 100 0), none, some (vI q), some (vI x), some (vI 0)] [] M Q := by
    intro Q x h2 hQ
    refine w238_97 ?_
    by_cases h0 : iN n5 ≤ 0
    · simp only [forall_eq, true_implies, false_implies, not_true_eq_false, not_false_eq_true, and_true, true_and, and_self, isB0, isB1, bI_t0, bI_f0, i10_, i20_, i01_, i02_, i12_, i21_, i229, x229, c5, h0]
      exact ⟨_, p1, hQ⟩
    · simp only [forall_eq, true_implies, false_implies, not_true_eq_false, not_false_eq_true, and_true, true_and, and_self, isB0, isB1, bI_t0, bI_f0, i10_, i20_, i01_, i02_, i12_, i21_, i229, x229, c5, h0, h2]
      exact ⟨_, p1, hQ⟩
  refine ⟨M', p2, p3, fun Q hQ => ?_⟩
  rcases hq with rfl | rfl | rfl
  · refine w238_61 ?_
    have g := fin Q (TM M 20 3) (by decide) hQ
    by_cases h0 : iN n7 ≤ 0
    · simp only [forall_eq, true_implies, false_implies, not_true_eq_false, not_false_eq_true, and_true, true_and, and_self, isB0, isB1, bI_t0, bI_f0, i10_, i20_, i01_, i02_, i12_, i21_, i231, x231, c7, h0, if_true]
      exact g
    · simp only [forall_eq, true_implies, false_implies, not_true_eq_false, not_false_eq_true, and_true, true_and, and_self, isB0, isB1, bI_t0, bI_f0, i10_, i20_, i01_, i02_, i12_, i21_, i231, x231, c7, h0, if_true]
      exact g
  · rw [if_neg (by decide)]
    have hQ' : Q (some (vI (sumI (fun p => load (TM M) p) n7))) M' := hQ
    refine for_up (P := fun j => V X (d + 2) 238 61 [some (vR 100 0), none, some (vI 1), some (vI (sumI (fun p => load (TM M) p) j)), some (vI (iN j))] [] M Q) (n := n7) (fun j hj hP => w238_61 ?_) (w238_61 ?_)
    · simp only [forall_eq, true_implies, false_implies, not_true_eq_false, not_false_eq_true, and_true, true_and, and_self, isB0, isB1, bI_t0, bI_f0, i10_, i20_, i01_, i02_, i12_, i21_, i231, x231, c7, nle_ (a := n7) (b := j) (by omega) (by omega) hj, iN_step]
      exact ⟨_, _, c206 (by omega), hP⟩
    · simp only [forall_eq, true_implies, false_implies, not_true_eq_false, not_false_eq_true, and_true, true_and, and_self, isB0, isB1, bI_t0, bI_f0, i10_, i20_, i01_, i02_, i12_, i21_, i231, x231, c7, yle_ (a := n7) (b := n7) (by omega) (by omega) (Nat.le_refl _)]
      exact fin Q _ (by decide) hQ'
  · rw [if_neg (by decide)]
    have hQ' : Q (some (vI (heldS (TM M) n5))) M' := hQ
    have g : V X (d + 2) 238 97 [some (vR 100 0), none, some (vI 2), some (vI 0), some (vI 0)] [] M Q := by
      refine for_up (P := fun j => V X (d + 2) 238 97 [some (vR 100 0), none, some (vI 2), some (vI (heldS (TM M) j)), some (vI (iN j))] [] M Q) (n := n5) (fun j hj hP => w238_97 ?_) (w238_97 ?_)
      · simp only [forall_eq, true_implies, false_implies, not_true_eq_false, not_false_eq_true, and_true, true_and, and_self, isB0, isB1, bI_t0, bI_f0, i10_, i20_, i01_, i02_, i12_, i21_, i229, x229, c5, nle_ (a := n5) (b := j) (by omega) (by omega) hj, iN_step]
        refine ⟨_, _, c229 hcnt (by omega), fun z => ?_, fun z => ?_⟩
        · have e : heldS (TM M) (j + 1) = heldS (TM M) j + 1 := if_neg z
          rw [e] at hP
          exact hP
        · have e : heldS (TM M) (j + 1) = heldS (TM M) j := if_pos z
          rw [e] at hP
          rw [heldS_e]
          exact hP
      · simp only [forall_eq, true_implies, false_implies, not_true_eq_false, not_false_eq_true, and_true, true_and, and_self, isB0, isB1, bI_t0, bI_f0, i10_, i20_, i01_, i02_, i12_, i21_, i229, x229, c5, yle_ (a := n5) (b := n5) (by omega) (by omega) (Nat.le_refl _)]
        exact ⟨_, p1, hQ'⟩
    refine w238_61 ?_
    by_cases h0 : iN n7 ≤ 0
    · simp only [forall_eq, true_implies, false_implies, not_true_eq_false, not_false_eq_true, and_true, true_and, and_self, isB0, isB1, bI_t0, bI_f0, i10_, i20_, i01_, i02_, i12_, i21_, i231, x231, c7, h0]
      exact g
    · simp only [forall_eq, true_implies, false_implies, not_true_eq_false, not_false_eq_true, and_true, true_and, and_self, isB0, isB1, bI_t0, bI_f0, i10_, i20_, i01_, i02_, i12_, i21_, i231, x231, c7, h0]
      exact g
theorem ClM.th {M M2 : Mem} {C : Cl} {n5 n6 n7 : Nat} {P : Nat → Nat → Nat → Prop} (h : ClM (M.1 101 0) C) (ht : ClT C n5 n6 n7) (k : K3 P M M2) (hp : ∀ j, 229 ≤ j → ¬ P 101 0 j) : ClM (M2.1 101 0) C := by
  have e : ∀ j, 229 ≤ j → M2.1 101 0 j = M.1 101 0 j := fun j h1 => k 101 0 j (hp j h1)
  refine ⟨by rw [e _ (by decide)]; exact h.1, fun i y p R q e2 hi => ?_⟩
  obtain ⟨g1, g2, g3, g4, g5⟩ := h.2 i y p R q e2 hi
  exact ⟨by rw [e _ (by omega)]; exact g1, by rw [e _ (by omega)]; exact g2, by rw [e _ (by omega)]; exact g3, fun j hj => by rw [e _ (by omega)]; exact g4 j hj, fun j h1 h2 => by rw [e _ (by omega)]; exact g5 j h1 h2⟩
theorem SkM.th {M M2 : Mem} {S : Sk} {P : Nat → Nat → Nat → Prop} (h : SkM (M.1 101 0) S) (k : K3 P M M2) (hp : ∀ j, 229 ≤ j → ¬ P 101 0 j) : SkM (M2.1 101 0) S := by
  have e : ∀ j, 229 ≤ j → M2.1 101 0 j = M.1 101 0 j := fun j h1 => k 101 0 j (hp j h1)
  refine ⟨by rw [e _ (by decide)]; exact h.1, fun i y s hi => ?_⟩
  obtain ⟨g1, g2, g3, g4⟩ := h.2 i y s hi
  exact ⟨by rw [e _ (by omega)]; exact g1, fun z => by rw [e _ (by omega), e _ (by omega)]; exact g2 z, fun z => by rw [e _ (by omega)]; exact g3 z, fun z => by rw [e _ (by omega)]; exact g4 z⟩
theorem LawM.th {M M2 : Mem} {L : Lw} {P : Nat → Nat → Nat → Prop} (h : LawM (M.1 101 0) L) (k : K3 P M M2) (hp : ∀ j, 229 ≤ j → ¬ P 101 0 j) : LawM (M2.1 101 0) L := h.keep (k 101 0 232 (hp _ (by decide))) (fun j hj => k 101 0 j (hp j (by omega)))
theorem ThW_w : ∀ j, 229 ≤ j → ¬ ThW 101 0 j := by
  intro j h z
  simp only [ThW, ThR] at z
  omega
theorem op116 {X : Cx} {d : Nat} {M : Mem} {B lc : Nat} {v q : Int32} {L : Lw} {Cs : Cl} {S : Sk} {n5 n6 n7 : Nat} (hw : WldL B M lc) (hv : VTn B (TM M) n5 n6 n7) (hLC : LawC M 0 L) (hLM : LawM (M.1 101 0) L) (hLT : LawT L) (hCC : ClC M 0 Cs) (hCM : ClM (M.1 101 0) Cs) (hCT : ClT Cs n5 n6 n7) (hSC : SkC M 0 S) (hSM : SkM (M.1 101 0) S) (hST : SkT S) (h3 : M.1 11 1 3 = 1) (hb1 : M.1 30 1 0 = 0) : ∃ (x : Int32) (M1 M2 : Mem), CC X (d + 9) 116 [vR 2 0, vI v, vI q] M (some (vI x)) M1 ∧ CC X (d + 9) 238 [vR 100 0, vI v, vI q] M1 (some (vI x)) M2 ∧ K3 ThP M M2 := by
  have hT := hw.1
  have cr (M1 : Mem) := c151 (X := X) (d := d + 7) (M := M1) (v := v) (lo := 1) (hi := 60)
  have cc := c146 (X := X) (d := d + 7) (M := M) (v := v) (lo := 1) (hi := 60)
  have cr2 (M1 : Mem) := c151 (X := X) (d := d + 7) (M := M1) (v := q) (lo := 0) (hi := 2)
  have cc2 := c146 (X := X) (d := d + 7) (M := M) (v := q) (lo := 0) (hi := 2)
  by_cases hr : inR v 1 60 = true
  · rw [hr] at cc cr
    by_cases hq : inR q 0 2 = true
    · rw [hq] at cc2 cr2
      obtain ⟨k, rfl, hk⟩ := inR_iN (hi := 60) (by decide) (by
        simp only [inR, Bool.and_eq_true, decide_eq_true_eq] at hr ⊢
        exact ⟨Int32.le_trans (by decide) hr.1, hr.2⟩)
      have hq3 : q = 0 ∨ q = 1 ∨ q = 2 := by
        obtain ⟨t, rfl, ht⟩ := inR_iN (hi := 2) (by decide) hq
        rcases (show t = 0 ∨ t = 1 ∨ t = 2 by omega) with rfl | rfl | rfl
        · exact Or.inl rfl
        · exact Or.inr (Or.inl rfl)
        · exact Or.inr (Or.inr rfl)
      have vT : VTn B (TC M 0) n5 n6 n7 := by rw [hT]; exact hv
      -- the class
      obtain ⟨C0, x1, x2, x3⟩ := c54 (X := X) (d := d + 7) (M := M) (a := 1) (b := 0) (by decide)
      rw [hT] at x2
      obtain ⟨C1, ⟨i1, i2⟩, hV⟩ := for_fwd (n := k) (M := C0)
        (I := fun i Mi => TC Mi 1 = dN L Cs S n5 n6 n7 (TM M) i ∧ K3 ThC M Mi)
        (St := fun i Mi Q => V X (d + 9) 116 34 [some (vR 2 0), some (vI (iN k)), some (vI q), some (vI (iN i))] [] Mi Q)
        (by
          rintro i Mi hi ⟨g1, g2⟩
          obtain ⟨M', y1, y2, y3, y4⟩ := c95 (X := X) (d := d + 1) (M := Mi) (a := 1) (B := B + 2520 * i) (n5 := n5) (n6 := n6) (n7 := n7) (real := false) (s := (0, Mi.1 31 1)) (hLC.kw (a := 0) g2 ThC_l) hLT (hCC.kw g2 ThC_n) hCT (hSC.kw g2 ThC_n) hST (by rw [g1]; exact dN_v hv hCT) (by rw [g2 11 1 3 (by simp [ThC])]; exact h3) ⟨Nat.zero_le _, by rw [g2 30 1 0 (by simp [ThC])]; exact hb1, rfl⟩
          rw [dayS_f] at y3
          rw [g1] at y1 y2
          refine ⟨M', ⟨y2, k3_trans g2 (th_c y4 (m := 0) (by rw [g2 30 1 0 (by simp [ThC])]; exact hb1) y3)⟩, fun Q hQ => w116_34 ?_⟩
          simp only [forall_eq, true_implies, false_implies, not_true_eq_false, not_false_eq_true, and_true, true_and, and_self, isB0, isB1, bI_t0, bI_f0, i10_, i20_, i01_, i02_, i12_, i21_, nle_ (a := k) (b := i) (by omega) (by omega) hi, iN_step]
          exact ⟨_, _, y1, hQ⟩)
        ⟨x2, c54_th x3⟩
      have vn := dN_v (L := L) (S := S) hv hCT (i := k)
      have vC : VTn (B + 2520 * k) (TC C1 1) n5 n6 n7 := by rw [i1]; exact vn
      obtain ⟨c5, c6, c7, q5, q6, q7⟩ := vt_c vC
      -- the reference
      have wC : C1.1 101 0 = M.1 101 0 := k3_col i2 (fun _ => by simp [ThC])
      have TC1 : TM C1 = TM M := by
        show TW (C1.1 101 0) = TW (M.1 101 0)
        rw [wC]
      obtain ⟨R0, z1, z2, z3, z4⟩ := c236 (X := X) (d := d + 7) (M := C1)
      have wR0 : R0.1 101 0 = M.1 101 0 := by rw [k3_col z4 (fun _ => by omega), wC]
      have bm : BkM (M.1 101 0) (lc, fun j => M.1 101 0 (645 + j)) := hw.2.2.2.m
      obtain ⟨R1, ⟨j1, j2, j3⟩, hW⟩ := for_fwd (n := k) (M := R0)
        (I := fun i Mi => TM Mi = dN L Cs S n5 n6 n7 (TM M) i ∧ K3 ThW R0 Mi ∧ (∀ t, t < 229 → Mi.1 104 0 t = R0.1 104 0 t) ∧ Mi.1 100 0 26 = 0 ∧ BkM (Mi.1 101 0) (lc, fun j => M.1 101 0 (645 + j)))
        (St := fun i Mi Q => V X (d + 9) 238 27 [some (vR 100 0), some (vI (iN k)), some (vI q), some (vI (iN i)), none] [] Mi Q)
        (by
          rintro i Mi hi ⟨g1, g2, g3, g4, g5⟩
          obtain ⟨M', y1, y2, y3, y4⟩ := c226 (X := X) (d := d) (M := Mi) (L := L) (C := Cs) (S := S) (real := false) (s := (lc, fun j => M.1 101 0 (645 + j))) (B := B + 2520 * i) (n5 := n5) (n6 := n6) (n7 := n7) (LawM.th (M := R0) (by rw [wR0]; exact hLM) g2 ThW_w) hLT (ClM.th (M := R0) (by rw [wR0]; exact hCM) hCT g2 ThW_w) hCT (SkM.th (M := R0) (by rw [wR0]; exact hSM) g2 ThW_w) hST (by rw [g1]; exact dN_v hv hCT) g4 g5
          rw [dayS_f] at y3
          rw [g1] at y1 y2
          have e645 : ∀ j, Mi.1 101 0 (645 + j) = M.1 101 0 (645 + j) := fun j => by rw [g2 101 0 _ (ThW_w _ (by omega)), wR0]
          have kw : K3 ThW Mi M' := th_w (lc := lc) y4 (by
            rw [show (fun j => Mi.1 101 0 (645 + j)) = (fun j => M.1 101 0 (645 + j)) from funext e645]
            exact y3)
          refine ⟨M', ⟨y2, k3_trans g2 kw, fun t ht => by rw [y4 104 0 t (by simp [Wd, Wm, Wb])]; exact g3 t ht, by rw [y4 100 0 26 (by simp [Wd, Wm, Wb])]; exact g4, y3⟩, fun Q hQ => w238_27 ?_⟩
          simp only [forall_eq, true_implies, false_implies, not_true_eq_false, not_false_eq_true, and_true, true_and, and_self, isB0, isB1, bI_t0, bI_f0, i10_, i20_, i01_, i02_, i12_, i21_, nle_ (a := k) (b := i) (by omega) (by omega) hi, iN_step]
          exact ⟨_, _, y1, hQ⟩)
        ⟨by show TW (R0.1 101 0) = _; rw [wR0]; rfl, k3_refl, fun _ _ => rfl, z3, by rw [wR0]; exact bm⟩
      obtain ⟨R2, e1, e2, e3⟩ := c238_end (X := X) (d := d + 7) (M := R1) (B := B + 2520 * k) (n5 := n5) (n6 := n6) (n7 := n7) (q := q) (by rw [j1]; exact vn) hq3
      rw [j1] at e3
      have kR : K3 ThR C1 R2 := th_back z2 z4 j2 j3.1 e1 e2
      have kk : (iN k ≤ iN k) = True := yle_ (by omega) (by omega) (Nat.le_refl _)
      have m3 : R1.1 101 0 2 = dN L Cs S n5 n6 n7 (TM M) k 20 3 := by rw [← j1]; exact TW_c (c := 20) (j := 3) (by decide)
      have m3c : C1.1 20 1 3 = dN L Cs S n5 n6 n7 (TM M) k 20 3 := by rw [← i1]; exact (TC20 (by decide)).symm
      refine ⟨gotS (dN L Cs S n5 n6 n7 (TM M) k) n5 n7 q, C1, R2, e116 (w116_0 ⟨_, _, cc, ?_⟩), e238 (w238_0 ⟨_, _, cr C1, ?_⟩), k3_trans (k3_sub i2 (fun c a j z => Or.inl z)) (k3_sub kR (fun c a j z => Or.inr z))⟩
      · simp only [forall_eq, true_implies, false_implies, not_true_eq_false, not_false_eq_true, and_true, true_and, and_self, isB0, isB1, bI_t0, bI_f0, i10_, i20_, i01_, i02_, i12_, i21_]
        refine ⟨_, _, cc2, ?_⟩
        simp only [forall_eq, true_implies, false_implies, not_true_eq_false, not_false_eq_true, and_true, true_and, and_self, isB0, isB1, bI_t0, bI_f0, i10_, i20_, i01_, i02_, i12_, i21_]
        refine ⟨_, x1, hV _ (w116_34 ?_)⟩
        rcases hq3 with rfl | rfl | rfl
        · simp only [forall_eq, true_implies, false_implies, not_true_eq_false, not_false_eq_true, and_true, true_and, and_self, isB0, isB1, bI_t0, bI_f0, i10_, i20_, i01_, i02_, i12_, i21_, kk, m3c]
          rfl
        · simp only [forall_eq, true_implies, false_implies, not_true_eq_false, not_false_eq_true, and_true, true_and, and_self, isB0, isB1, bI_t0, bI_f0, i10_, i20_, i01_, i02_, i12_, i21_, kk]
          have := c64 (X := X) (d := d + 5) (M := C1) (a := 1) q7 c7
          rw [i1] at this
          exact ⟨_, _, this, rfl, rfl⟩
        · simp only [forall_eq, true_implies, false_implies, not_true_eq_false, not_false_eq_true, and_true, true_and, and_self, isB0, isB1, bI_t0, bI_f0, i10_, i20_, i01_, i02_, i12_, i21_, kk]
          have := c68 (X := X) (d := d + 5) (M := C1) (a := 1) (VT.cnt ⟨n5, n6, n7, vC⟩) q5 c5
          rw [i1] at this
          exact ⟨_, _, this, rfl, rfl⟩
      · simp only [forall_eq, true_implies, false_implies, not_true_eq_false, not_false_eq_true, and_true, true_and, and_self, isB0, isB1, bI_t0, bI_f0, i10_, i20_, i01_, i02_, i12_, i21_]
        refine ⟨_, _, cr2 C1, ?_⟩
        simp only [forall_eq, true_implies, false_implies, not_true_eq_false, not_false_eq_true, and_true, true_and, and_self, isB0, isB1, bI_t0, bI_f0, i10_, i20_, i01_, i02_, i12_, i21_]
        refine ⟨_, z1, hW _ (w238_27 ?_)⟩
        have e3' := e3 (fun r' M' => r' = some (vI (gotS (dN L Cs S n5 n6 n7 (TM M) k) n5 n7 q)) ∧ M' = R2) ⟨rfl, rfl⟩
        by_cases h0 : q = 0
        · rw [if_pos h0] at e3'
          simp only [forall_eq, true_implies, false_implies, not_true_eq_false, not_false_eq_true, and_true, true_and, and_self, isB0, isB1, bI_t0, bI_f0, i10_, i20_, i01_, i02_, i12_, i21_, kk, h0, show inb 2 2129 from inb_l (by decide) (by decide), show ix 2 = 2 from ix_l (by decide), m3]
          rw [h0] at e3'
          exact e3'
        · rw [if_neg h0] at e3'
          simp only [forall_eq, true_implies, false_implies, not_true_eq_false, not_false_eq_true, and_true, true_and, and_self, isB0, isB1, bI_t0, bI_f0, i10_, i20_, i01_, i02_, i12_, i21_, kk, h0]
          exact e3'
    · have hq : inR q 0 2 = false := by simpa using hq
      rw [hq] at cc2 cr2
      refine ⟨-1, M, M, e116 (w116_0 ⟨_, _, cc, ?_⟩), e238 (w238_0 ⟨_, _, cr M, ?_⟩), k3_refl⟩
      · simp only [forall_eq, true_implies, false_implies, not_true_eq_false, not_false_eq_true, and_true, true_and, and_self, isB0, isB1, bI_t0, bI_f0, i10_, i20_, i01_, i02_, i12_, i21_]
        refine ⟨_, _, cc2, ?_⟩
        simp only [forall_eq, true_implies, false_implies, not_true_eq_false, not_false_eq_true, and_true, true_and, and_self, isB0, isB1, bI_t0, bI_f0, i10_, i20_, i01_, i02_, i12_, i21_]
      · simp only [forall_eq, true_implies, false_implies, not_true_eq_false, not_false_eq_true, and_true, true_and, and_self, isB0, isB1, bI_t0, bI_f0, i10_, i20_, i01_, i02_, i12_, i21_]
        refine ⟨_, _, cr2 M, ?_⟩
        simp only [forall_eq, true_implies, false_implies, not_true_eq_false, not_false_eq_true, and_true, true_and, and_self, isB0, isB1, bI_t0, bI_f0, i10_, i20_, i01_, i02_, i12_, i21_]
  · have hr : inR v 1 60 = false := by simpa using hr
    rw [hr] at cc cr
    refine ⟨-1, M, M, e116 (w116_0 ⟨_, _, cc, ?_⟩), e238 (w238_0 ⟨_, _, cr M, ?_⟩), k3_refl⟩
    · simp only [forall_eq, true_implies, false_implies, not_true_eq_false, not_false_eq_true, and_true, true_and, and_self, isB0, isB1, bI_t0, bI_f0, i10_, i20_, i01_, i02_, i12_, i21_]
    · simp only [forall_eq, true_implies, false_implies, not_true_eq_false, not_false_eq_true, and_true, true_and, and_self, isB0, isB1, bI_t0, bI_f0, i10_, i20_, i01_, i02_, i12_, i21_]
