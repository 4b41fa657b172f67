/-! the class walks -/
/-- what a walk at instance a may write -/
abbrev Wk (a : Nat) : Nat → Nat → Nat → Prop := fun c b j => (c = 12 ∧ b = a) ∨ c = 47 ∨ (b = a ∧ 20 ≤ c ∧ c < 30)
theorem vt_c {B n5 n6 n7 : Nat} {M : Mem} {a : Nat} (h : VTn B (TC M a) n5 n6 n7) : M.1 20 a 5 = iN n5 ∧ M.1 20 a 6 = iN n6 ∧ M.1 20 a 7 = iN n7 ∧ n5 ≤ 10 ∧ n6 ≤ 8 ∧ n7 ≤ 12 := by
  obtain ⟨h1, h2, h3, h4, h5, h6, -⟩ := h
  rw [TC20 (by decide)] at h4 h5 h6
  exact ⟨h4, h5, h6, h1, h2, h3⟩
theorem LawC.kw {M M2 : Mem} {a : Nat} {L : Lw} {P : Nat → Nat → Nat → Prop} (h : LawC M 0 L) (k : K3 P M M2) (hp : ∀ c b j, P c b j → c ≠ 40 ∧ c ≠ 42 ∧ c ≠ 43 ∧ c ≠ 44 ∧ c ≠ 45 ∧ c ≠ 46) : LawC M2 0 L :=
  h.keep (k 40 0 0 (fun z => (hp _ _ _ z).1 rfl)) (k3_col k (fun j z => (hp _ _ _ z).2.1 rfl)) (k3_col k (fun j z => (hp _ _ _ z).2.2.1 rfl)) (k3_col k (fun j z => (hp _ _ _ z).2.2.2.1 rfl)) (k3_col k (fun j z => (hp _ _ _ z).2.2.2.2.1 rfl)) (k3_col k (fun j z => (hp _ _ _ z).2.2.2.2.2 rfl))
theorem Wk_l {a : Nat} : ∀ c b j, Wk a c b j → c ≠ 40 ∧ c ≠ 42 ∧ c ≠ 43 ∧ c ≠ 44 ∧ c ≠ 45 ∧ c ≠ 46 := by
  intro c b j h
  rcases h with ⟨h, -⟩ | h | ⟨-, h1, h2⟩ <;> omega
theorem TC_k {P : Nat → Nat → Nat → Prop} {M M2 : Mem} {a : Nat} (k : K3 P M M2) (hp : ∀ c j, 20 ≤ c → c < 30 → ¬ P c a j) : TC M2 a = TC M a := TC_of (fun c h1 h2 => k3_col k (fun j => hp c j h1 h2))
theorem no_has (n : Int32) {k : Int32} : has (-1) n k = false := by simp [has]
theorem c91 {X : Cx} {d : Nat} {M : Mem} {a B n5 n6 n7 p f : Nat} {L : Lw} (hL : LawC M 0 L) (hT : LawT L) (hv : VTn B (TC M a) n5 n6 n7) (hp : p < n7) (hf : f < n5) : ∃ M', CC X (d + 5) 91 [vR 11 a, vI (iN p), vI (iN f)] M none M' ∧ TC M' a = takeS L (TC M a) p f ∧ K3 (Wk a) M M' := by
  obtain ⟨c5, c6, c7, q5, q6, q7⟩ := vt_c hv
  have hasp : has (iN p) (iN n7) 12 = true := has_of hp q7 (by decide)
  have hasf : has (iN f) (iN n5) 10 = true := has_of hf q5 (by decide)
  obtain ⟨M1, ca, ka⟩ := c89 (X := X) (d := d) (M := M) (a := a) (n := n7) (word := 0) (p := p) (pf := iN f) (pe := -1) (f := some f) (e := none) (by decide) hL hT q7 c7 hp ⟨rfl, by omega, by rw [c5]; exact hasf⟩ (no_has _)
  have cl := c63 (X := X) (d := d + 2) (M := M) (a := a) (p := iN p)
  rw [c7, if_pos hasp, ix_of (by omega)] at cl
  have cf := c55 (X := X) (d := d + 3) (M := M) (a := a) (v := iN f)
  rw [c5, hasf] at cf
  have cp := c57 (X := X) (d := d + 3) (M := M) (a := a) (v := iN p)
  rw [c7, hasp] at cp
  have t26 : TC M a 26 p = M.1 26 a p := TC_rd (by simp [okC]; omega)
  have t22 : TC M a 22 f = M.1 22 a f := TC_rd (by simp [okC]; omega)
  have t29 : TC M a 29 (p * 10 + f) = M.1 29 a (p * 10 + f) := TC_rd (okT29 (by omega) (by omega))
  have m22 : M1.1 22 a f = M.1 22 a f := ka 22 a f (by simp)
  have m29 : M1.1 29 a (p * 10 + f) = M.1 29 a (p * 10 + f) := ka 29 a _ (by simp)
  have eT : TC M1 a = TC M a := TC_k ka (fun c j h1 h2 => by omega)
  refine ⟨st (st M1 22 a f (TC M a 22 f - mchS L (TC M a) p f)) 29 a (p * 10 + f) (TC M a 29 (p * 10 + f) + mchS L (TC M a) p f), e91 (w91_0 ⟨_, _, cf, ?_⟩), ?_, ?_⟩
  · simp only [forall_eq, true_implies, false_implies, not_true_eq_false, not_false_eq_true, and_true, true_and, and_self, isB0, isB1, bI_t0, bI_f0, i10_, i20_, i01_, i02_, i12_, i21_]
    refine ⟨_, _, cp, ?_⟩
    simp only [forall_eq, true_implies, false_implies, not_true_eq_false, not_false_eq_true, and_true, true_and, and_self, isB0, isB1, bI_t0, bI_f0, i10_, i20_, i01_, i02_, i12_, i21_, show inb (iN p) 12 from inb_of (by omega) (by decide), ix_of (show p < 2147483648 by omega)]
    refine ⟨_, _, cl, _, _, ca, ?_⟩
    have em : (if (if 10 * M.1 26 a p - load (TC M a) p < M.1 22 a f then 10 * M.1 26 a p - load (TC M a) p else M.1 22 a f) < askS L (TC M a) 0 p (some f) none then (if 10 * M.1 26 a p - load (TC M a) p < M.1 22 a f then 10 * M.1 26 a p - load (TC M a) p else M.1 22 a f) else askS L (TC M a) 0 p (some f) none) = mchS L (TC M a) p f := by
      rw [min_c, min_c]
      unfold mchS
      rw [t26, t22]
    simp only [forall_eq, true_implies, false_implies, not_true_eq_false, not_false_eq_true, and_true, true_and, and_self, isB0, isB1, bI_t0, bI_f0, i10_, i20_, i01_, i02_, i12_, i21_, show inb (iN f) 10 from inb_of (by omega) (by decide), ix_of (show f < 2147483648 by omega), iN_10, show inb (iN (p * 10 + f)) 120 from inb_of (by omega) (by decide), ix_of (show p * 10 + f < 2147483648 by omega), m22, em, st_rd, Nat.reduceEqDiff, false_and, if_false, m29, t22, t29]
  · rw [TC_st (okT29 (by omega) (by omega)), TC_st (by simp [okC]; omega), eT]
    rfl
  · exact k3_trans (k3_trans (k3_sub ka (fun c b j z => z.elim Or.inl (fun y => Or.inr (Or.inl y)))) (k3_st (by simp [Wk]))) (k3_st (by simp [Wk]))
/-- whether one strays -/
def strS (L : Lw) (T : Ld) (p e : Nat) (real : Bool) : Ld × Bool :=
  if real = true then (if askS L T 2 p none (some e) = 0 then (T, false) else (up2 T 20 0 (drw (T 20 0)), decide (drn (drw (T 20 0)) 1000 < askS L T 2 p none (some e)))) else (T, decide (500 ≤ askS L T 2 p none (some e)))
theorem c92 {X : Cx} {d : Nat} {M : Mem} {a B n5 n6 n7 p e : Nat} {L : Lw} {real : Bool} (hL : LawC M 0 L) (hT : LawT L) (hv : VTn B (TC M a) n5 n6 n7) (hp : p < n7) (he : e < n6) (hr : M.1 11 a 3 = bI (!real)) : ∃ M', CC X (d + 5) 92 [vR 11 a, vI (iN p), vI (iN e)] M (some (vI (bI (strS L (TC M a) p e real).2))) M' ∧ TC M' a = (strS L (TC M a) p e real).1 ∧ K3 (Wk a) M M' := by
  obtain ⟨c5, c6, c7, q5, q6, q7⟩ := vt_c hv
  have hase : has (iN e) (iN n6) 8 = true := has_of he q6 (by decide)
  obtain ⟨M1, ca, ka⟩ := c89 (X := X) (d := d) (M := M) (a := a) (n := n7) (word := 2) (p := p) (pf := -1) (pe := iN e) (f := none) (e := some e) (by decide) hL hT q7 c7 hp (no_has _) ⟨rfl, by omega, by rw [c6]; exact hase⟩
  have eT : TC M1 a = TC M a := TC_k ka (fun c j h1 h2 => by omega)
  have ka2 : K3 (Wk a) M M1 := k3_sub ka (fun c b j z => z.elim Or.inl (fun y => Or.inr (Or.inl y)))
  have r1 : M1.1 11 a 3 = M.1 11 a 3 := ka 11 a 3 (by simp)
  have d1 : M1.1 20 a 0 = TC M a 20 0 := by rw [ka 20 a 0 (by simp)]; exact (TC20 (by decide)).symm
  generalize hk : askS L (TC M a) 2 p none (some e) = kk at ca
  cases real with
  | true =>
    have hr0 : M1.1 11 a 3 = 0 := by rw [r1, hr]; rfl
    by_cases h0 : kk = 0
    · have es : strS L (TC M a) p e true = (TC M a, false) := by
        unfold strS
        rw [if_pos rfl, hk, if_pos h0]
      rw [es]
      refine ⟨M1, e92 (w92_0 ⟨_, _, ca, ?_⟩), eT, ka2⟩
      simp only [forall_eq, true_implies, false_implies, not_true_eq_false, not_false_eq_true, and_true, true_and, and_self, isB0, isB1, bI_t0, bI_f0, i10_, i20_, i01_, i02_, i12_, i21_, hr0, h0]
      simp [bI]
    · have es : strS L (TC M a) p e true = (up2 (TC M a) 20 0 (drw (TC M a 20 0)), decide (drn (drw (TC M a 20 0)) 1000 < kk)) := by
        unfold strS
        rw [if_pos rfl, hk, if_neg h0]
      rw [es]
      refine ⟨st M1 20 a 0 (drw (TC M a 20 0)), e92 (w92_0 ⟨_, _, ca, ?_⟩), by rw [TC_st (by decide), eT], k3_trans ka2 (k3_st (by simp [Wk]))⟩
      simp only [forall_eq, true_implies, false_implies, not_true_eq_false, not_false_eq_true, and_true, true_and, and_self, isB0, isB1, bI_t0, bI_f0, i10_, i20_, i01_, i02_, i12_, i21_, hr0, h0, d1]
      refine ⟨_, _, c147, ?_⟩
      simp only [forall_eq, true_implies, false_implies, not_true_eq_false, not_false_eq_true, and_true, true_and, and_self, isB0, isB1, bI_t0, bI_f0, i10_, i20_, i01_, i02_, i12_, i21_, st_at]
      refine ⟨_, _, c148 (by decide), ?_⟩
      by_cases hh : drn (drw (TC M a 20 0)) 1000 < kk
      · simp only [forall_eq, true_implies, false_implies, not_true_eq_false, not_false_eq_true, and_true, true_and, and_self, isB0, isB1, bI_t0, bI_f0, i10_, i20_, i01_, i02_, i12_, i21_, show (kk ≤ drn (drw (TC M a 20 0)) 1000) = False from eq_false (Int32.not_le.mpr hh), decide_eq_true hh]
        rfl
      · simp only [forall_eq, true_implies, false_implies, not_true_eq_false, not_false_eq_true, and_true, true_and, and_self, isB0, isB1, bI_t0, bI_f0, i10_, i20_, i01_, i02_, i12_, i21_, show (kk ≤ drn (drw (TC M a 20 0)) 1000) = True from eq_true (Int32.not_lt.mp hh), decide_eq_false hh]
        rfl
  | false =>
    have hr0 : ¬ M1.1 11 a 3 = 0 := by rw [r1, hr]; decide
    have es : strS L (TC M a) p e false = (TC M a, decide (500 ≤ kk)) := by
      unfold strS
      rw [if_neg (by decide), hk]
    rw [es]
    refine ⟨M1, e92 (w92_0 ⟨_, _, ca, ?_⟩), eT, ka2⟩
    by_cases hh : 500 ≤ kk
    · simp only [forall_eq, true_implies, false_implies, not_true_eq_false, not_false_eq_true, and_true, true_and, and_self, isB0, isB1, bI_t0, bI_f0, i10_, i20_, i01_, i02_, i12_, i21_, hr0, show (kk < 500) = False from eq_false (Int32.not_lt.mpr hh), decide_eq_true hh]
      rfl
    · simp only [forall_eq, true_implies, false_implies, not_true_eq_false, not_false_eq_true, and_true, true_and, and_self, isB0, isB1, bI_t0, bI_f0, i10_, i20_, i01_, i02_, i12_, i21_, hr0, show (kk < 500) = True from eq_true (Int32.not_le.mp hh), decide_eq_false hh]
      rfl
def nxt (n e : Nat) : Nat := if e + 1 < n then e + 1 else 0
theorem c93 {X : Cx} {d : Nat} {M : Mem} {a n e : Nat} (hn : n ≤ 8) (h6 : M.1 20 a 6 = iN n) (he : e < n) : CC X (d + 2) 93 [vR 11 a, vI (iN e)] M (some (vI (iN (nxt n e)))) M := by
  refine e93 (w93_0 ⟨_, _, c56, ?_⟩)
  rw [h6, iN_step]
  unfold nxt
  by_cases h : e + 1 < n
  · rw [show has (iN (e + 1)) (iN n) 8 = true from has_of h hn (by decide), if_pos h]
    simp only [forall_eq, true_implies, false_implies, not_true_eq_false, not_false_eq_true, and_true, true_and, and_self, isB0, isB1, bI_t0, bI_f0, i10_, i20_, i01_, i02_, i12_, i21_]
  · rw [show has (iN (e + 1)) (iN n) 8 = false from has_no (by omega) (by omega) hn (by decide), if_neg h]
    simp only [forall_eq, true_implies, false_implies, not_true_eq_false, not_false_eq_true, and_true, true_and, and_self, isB0, isB1, bI_t0, bI_f0, i10_, i20_, i01_, i02_, i12_, i21_]
    rfl
/-- what is left at a door, field by field -/
def lvS (L : Lw) (p e : Nat) (T : Ld) : Nat → Ld × Int32
  | 0 => (T, 0)
  | f + 1 => if (lvS L p e T f).1 29 (p * 10 + f) ≤ 0 then lvS L p e T f else
    (up2 (up2 (lvS L p e T f).1 29 (p * 10 + f) ((lvS L p e T f).1 29 (p * 10 + f) - (lvS L p e T f).1 29 (p * 10 + f) * askS L (lvS L p e T f).1 1 p (some f) (some e) / 1000)) 24 (e * 10 + f) ((lvS L p e T f).1 24 (e * 10 + f) + (lvS L p e T f).1 29 (p * 10 + f) * askS L (lvS L p e T f).1 1 p (some f) (some e) / 1000),
     (lvS L p e T f).2 + (lvS L p e T f).1 29 (p * 10 + f) * askS L (lvS L p e T f).1 1 p (some f) (some e) / 1000)
theorem lvS_keep {L : Lw} {p e : Nat} {T : Ld} : ∀ {j c i : Nat}, (c ≠ 29 ∧ c ≠ 24) ∨ (c = 29 ∧ p * 10 + j ≤ i) → (lvS L p e T j).1 c i = T c i
  | 0, _, _, _ => rfl
  | j + 1, c, i, h => by
    have ih : (lvS L p e T j).1 c i = T c i := lvS_keep (by omega)
    unfold lvS
    split
    · exact ih
    · show up2 (up2 _ 29 _ _) 24 _ _ c i = _
      rw [up2_ne (by omega), up2_ne (by omega)]
      exact ih
def leaveS (L : Lw) (T : Ld) (p e : Nat) : Ld × Int32 :=
  if T 20 2 = 1 ∨ T 23 e = 1 then (T, 0) else (up2 (lvS L p e T 10).1 20 3 ((lvS L p e T 10).1 20 3 + (lvS L p e T 10).2), (lvS L p e T 10).2)
theorem c94 {X : Cx} {d : Nat} {M : Mem} {a B n5 n6 n7 p e : Nat} {L : Lw} (hL : LawC M 0 L) (hT : LawT L) (hv : VTn B (TC M a) n5 n6 n7) (hp : p < n7) (he : e < n6) : ∃ M', CC X (d + 5) 94 [vR 11 a, vI (iN p), vI (iN e)] M (some (vI (leaveS L (TC M a) p e).2)) M' ∧ TC M' a = (leaveS L (TC M a) p e).1 ∧ K3 (Wk a) M M' := by
  obtain ⟨c5, c6, c7, q5, q6, q7⟩ := vt_c hv
  have hasp : has (iN p) (iN n7) 12 = true := has_of hp q7 (by decide)
  have hase : has (iN e) (iN n6) 8 = true := has_of he q6 (by decide)
  have cp := c57 (X := X) (d := d + 3) (M := M) (a := a) (v := iN p)
  rw [c7, hasp] at cp
  have ce := c56 (X := X) (d := d + 3) (M := M) (a := a) (v := iN e)
  rw [c6, hase] at ce
  have t202 : TC M a 20 2 = M.1 20 a 2 := TC20 (by decide)
  have t23 : TC M a 23 e = M.1 23 a e := TC_rd (by simp [okC]; omega)
  have be : inb (iN e) 8 := inb_of (by omega) (by decide)
  have xe : ix (iN e) = e := ix_of (by omega)
  by_cases hno : TC M a 20 2 = 1 ∨ TC M a 23 e = 1
  · have es : leaveS L (TC M a) p e = (TC M a, 0) := if_pos hno
    rw [es]
    refine ⟨M, e94 (w94_0 ⟨_, _, cp, ?_⟩), rfl, k3_refl⟩
    simp only [forall_eq, true_implies, false_implies, not_true_eq_false, not_false_eq_true, and_true, true_and, and_self, isB0, isB1, bI_t0, bI_f0, i10_, i20_, i01_, i02_, i12_, i21_]
    refine ⟨_, _, ce, ?_⟩
    rw [t202, t23] at hno
    by_cases h1 : M.1 20 a 2 = 1
    · simp only [forall_eq, true_implies, false_implies, not_true_eq_false, not_false_eq_true, and_true, true_and, and_self, isB0, isB1, bI_t0, bI_f0, i10_, i20_, i01_, i02_, i12_, i21_, h1]
    · have h2 := hno.resolve_left h1
      simp only [forall_eq, true_implies, false_implies, not_true_eq_false, not_false_eq_true, and_true, true_and, and_self, isB0, isB1, bI_t0, bI_f0, i10_, i20_, i01_, i02_, i12_, i21_, h1, be, xe, h2]
  · have es : leaveS L (TC M a) p e = (up2 (lvS L p e (TC M a) 10).1 20 3 ((lvS L p e (TC M a) 10).1 20 3 + (lvS L p e (TC M a) 10).2), (lvS L p e (TC M a) 10).2) := if_neg hno
    rw [es]
    obtain ⟨hn1, hn2⟩ := not_or.mp hno
    obtain ⟨Mn, ⟨g1, g2⟩, hV⟩ := for_fwd (n := 10) (M := M)
      (I := fun j Mj => TC Mj a = (lvS L p e (TC M a) j).1 ∧ K3 (Wk a) M Mj)
      (St := fun j Mj Q => V X (d + 5) 94 53 [some (vR 11 a), some (vI (iN p)), some (vI (iN e)), some (vI (lvS L p e (TC M a) j).2), some (vI (iN j)), none, none] [] Mj Q)
      (by
        rintro j Mj hj ⟨i1, i2⟩
        have t29 : TC Mj a 29 (p * 10 + j) = Mj.1 29 a (p * 10 + j) := TC_rd (okT29 (by omega) (by omega))
        have t24 : TC Mj a 24 (e * 10 + j) = Mj.1 24 a (e * 10 + j) := TC_rd (okT24 (by omega) (by omega))
        have l10 : (10 ≤ iN j) = False := nle_ (a := 10) (by decide) (by omega) (by omega)
        have bj : inb (iN (p * 10 + j)) 120 := inb_of (by omega) (by decide)
        have xj : ix (iN (p * 10 + j)) = p * 10 + j := ix_of (by omega)
        by_cases hz : (lvS L p e (TC M a) j).1 29 (p * 10 + j) ≤ 0
        · have e1 : lvS L p e (TC M a) (j + 1) = lvS L p e (TC M a) j := if_pos hz
          rw [e1]
          refine ⟨Mj, ⟨i1, i2⟩, fun Q hQ => w94_53 ?_⟩
          rw [← i1, t29] at hz
          simp only [forall_eq, true_implies, false_implies, not_true_eq_false, not_false_eq_true, and_true, true_and, and_self, isB0, isB1, bI_t0, bI_f0, i10_, i20_, i01_, i02_, i12_, i21_, l10, iN_10, bj, xj, hz, iN_step]
          exact hQ
        · have e1 : lvS L p e (TC M a) (j + 1) = (up2 (up2 (lvS L p e (TC M a) j).1 29 (p * 10 + j) ((lvS L p e (TC M a) j).1 29 (p * 10 + j) - (lvS L p e (TC M a) j).1 29 (p * 10 + j) * askS L (lvS L p e (TC M a) j).1 1 p (some j) (some e) / 1000)) 24 (e * 10 + j) ((lvS L p e (TC M a) j).1 24 (e * 10 + j) + (lvS L p e (TC M a) j).1 29 (p * 10 + j) * askS L (lvS L p e (TC M a) j).1 1 p (some j) (some e) / 1000), (lvS L p e (TC M a) j).2 + (lvS L p e (TC M a) j).1 29 (p * 10 + j) * askS L (lvS L p e (TC M a) j).1 1 p (some j) (some e) / 1000) := if_neg hz
          rw [e1]
          have hj5 : j < n5 := by
            refine Nat.lt_of_not_le (fun z => hz ?_)
            rw [lvS_keep (Or.inr ⟨rfl, Nat.le_refl _⟩)]
            obtain ⟨-, -, -, -, -, -, -, -, h9, -⟩ := hv
            obtain ⟨-, s, b, -, -, -, -, -, b1, b2, -⟩ := h9 p hp
            rw [b1 j hj, b2 j z hj]
            decide
          have k20 : ∀ i, i < 8 → Mj.1 20 a i = TC M a 20 i := fun i hi => by
            rw [← TC20 (M := Mj) (a := a) hi, i1]
            exact lvS_keep (by omega)
          have g5 : Mj.1 20 a 5 = iN n5 := by rw [k20 5 (by decide), TC20 (by decide)]; exact c5
          have g6 : Mj.1 20 a 6 = iN n6 := by rw [k20 6 (by decide), TC20 (by decide)]; exact c6
          have g7 : Mj.1 20 a 7 = iN n7 := by rw [k20 7 (by decide), TC20 (by decide)]; exact c7
          obtain ⟨M1, ca, ka⟩ := c89 (X := X) (d := d) (M := Mj) (a := a) (n := n7) (word := 1) (p := p) (pf := iN j) (pe := iN e) (f := some j) (e := some e) (by decide) (hL.kw (a := a) i2 Wk_l) hT q7 g7 hp ⟨rfl, by omega, by rw [g5]; exact has_of hj5 q5 (by decide)⟩ ⟨rfl, by omega, by rw [g6]; exact hase⟩
          have m29 : M1.1 29 a (p * 10 + j) = TC Mj a 29 (p * 10 + j) := (ka 29 a _ (by simp)).trans t29.symm
          have m24 : M1.1 24 a (e * 10 + j) = TC Mj a 24 (e * 10 + j) := (ka 24 a _ (by simp)).trans t24.symm
          have eT : TC M1 a = TC Mj a := TC_k ka (fun c j h1 h2 => by omega)
          refine ⟨st (st M1 29 a (p * 10 + j) (TC Mj a 29 (p * 10 + j) - TC Mj a 29 (p * 10 + j) * askS L (TC Mj a) 1 p (some j) (some e) / 1000)) 24 a (e * 10 + j) (TC Mj a 24 (e * 10 + j) + TC Mj a 29 (p * 10 + j) * askS L (TC Mj a) 1 p (some j) (some e) / 1000), ⟨?_, ?_⟩, fun Q hQ => w94_53 ?_⟩
          · rw [TC_st (okT24 (by omega) (by omega)), TC_st (okT29 (by omega) (by omega)), eT, i1]
          · exact k3_trans (k3_trans (k3_trans i2 (k3_sub ka (fun c b j z => z.elim Or.inl (fun y => Or.inr (Or.inl y))))) (k3_st (by simp [Wk]))) (k3_st (by simp [Wk]))
          · rw [← i1] at hz hQ
            rw [t29] at hz
            have hz' : (Mj.1 29 a (p * 10 + j) ≤ 0) = False := eq_false hz
            simp only [forall_eq, true_implies, false_implies, not_true_eq_false, not_false_eq_true, and_true, true_and, and_self, isB0, isB1, bI_t0, bI_f0, i10_, i20_, i01_, i02_, i12_, i21_, l10, iN_10, bj, xj, hz', iN_step]
            refine ⟨_, _, ca, ?_⟩
            rw [t29] at hQ m29
            simp only [forall_eq, true_implies, false_implies, not_true_eq_false, not_false_eq_true, and_true, true_and, and_self, isB0, isB1, bI_t0, bI_f0, i10_, i20_, i01_, i02_, i12_, i21_, show ((1000 : Int32) = 0) = False from by decide, show inb (iN (e * 10 + j)) 80 from inb_of (by omega) (by decide), ix_of (show e * 10 + j < 2147483648 by omega), bj, xj, m29, st_rd, Nat.reduceEqDiff, false_and, if_false, m24]
            rw [i1]
            rw [i1] at hQ
            exact hQ)
      ⟨rfl, k3_refl⟩
    refine ⟨st Mn 20 a 3 ((lvS L p e (TC M a) 10).1 20 3 + (lvS L p e (TC M a) 10).2), e94 (w94_0 ⟨_, _, cp, ?_⟩), ?_, k3_trans g2 (k3_st (by simp [Wk]))⟩
    · simp only [forall_eq, true_implies, false_implies, not_true_eq_false, not_false_eq_true, and_true, true_and, and_self, isB0, isB1, bI_t0, bI_f0, i10_, i20_, i01_, i02_, i12_, i21_]
      refine ⟨_, _, ce, ?_⟩
      rw [t202] at hn1
      rw [t23] at hn2
      simp only [forall_eq, true_implies, false_implies, not_true_eq_false, not_false_eq_true, and_true, true_and, and_self, isB0, isB1, bI_t0, bI_f0, i10_, i20_, i01_, i02_, i12_, i21_, hn1, be, xe, hn2]
      refine hV _ (w94_53 ?_)
      have t3 : Mn.1 20 a 3 = (lvS L p e (TC M a) 10).1 20 3 := by rw [← g1, TC20 (by decide)]
      simp only [forall_eq, true_implies, false_implies, not_true_eq_false, not_false_eq_true, and_true, true_and, and_self, isB0, isB1, bI_t0, bI_f0, i10_, i20_, i01_, i02_, i12_, i21_, show ((10 : Int32) ≤ iN 10) = True from by decide, t3]
    · rw [TC_st (by decide), g1]
