/-! a row of ways, read by both -/
def nw (c l : Nat) : Nat := if c = 0 then l else if c ≤ l then c else l
def cvN (c : Nat) : Int32 := if c = 0 then -1 else iN c
def wup (mt : Nat → Nat) (a b l x : Nat) : Nat := if x = 8 * a + b ∨ x = 8 * b + a then nw (mt (8 * a + b)) l else mt x
def wy2 (t : Nat → Nat) (h : Nat) (r0 : R0) : R0 := sE t 10022 (sX t h r0)
def wy3 (t : Nat → Nat) (h : Nat) (r0 : R0) : R0 := match wy2 t h r0 with
  | .inl j => if t j = vX t h r0 then .inr (2, j) else .inl j
  | .inr z => .inr z
def wy5 (t : Nat → Nat) (h : Nat) (r0 : R0) : R0 := sN t 1 99 (sX t h (wy3 t h r0))
def wyR (t : Nat → Nat) (h q i : Nat) : R0 := sE t 20059 (wy5 t h (s40 t q 10022 i))
theorem ix8 {a b : Nat} : iN a * 8 + iN b = iN (8 * a + b) := by
  rw [Nat.mul_comm 8 a]
  simp only [iN_lit, iN_mul, iN_add]
theorem ix8' {a b : Nat} : 8 * iN a + iN b = iN (8 * a + b) := by simp only [iN_lit, iN_mul, iN_add]
theorem c17 {X : Cx} {d : Nat} {M : Mem} {a b l c : Nat} (ha : a < 8) (hb : b < 8) (hl : l ≤ 99) (hc : c ≤ 99) (h1 : M.1 59 1 (8 * a + b) = iN c) (h2 : M.1 59 1 (8 * b + a) = iN c) : ∃ M', CC X (d + 2) 17 [vR 50 1, vI (iN a), vI (iN b), vI (iN l)] M none M' ∧ (∀ x, x < 64 → M'.1 59 1 x = if x = 8 * a + b ∨ x = 8 * b + a then iN (nw c l) else M.1 59 1 x) ∧ K3 (fun c a j => c = 59 ∧ a = 1) M M' := by
  have ca := c146 (X := X) (d := d) (M := M) (v := iN a) (lo := 0) (hi := 7)
  have cb := c146 (X := X) (d := d) (M := M) (v := iN b) (lo := 0) (hi := 7)
  rw [show inR (iN a) 0 7 = true from by rw [show inR (iN a) 0 7 = (decide (0 ≤ a) && decide (a ≤ 7)) from inR_d (lo := 0) (hi := 7) (by omega) (by decide) (by decide), decide_eq_true (Nat.zero_le _), decide_eq_true (by omega)]; rfl] at ca
  rw [show inR (iN b) 0 7 = true from by rw [show inR (iN b) 0 7 = (decide (0 ≤ b) && decide (b ≤ 7)) from inR_d (lo := 0) (hi := 7) (by omega) (by decide) (by decide), decide_eq_true (Nat.zero_le _), decide_eq_true (by omega)]; rfl] at cb
  have i1 : inb (iN (8 * a + b)) 64 := inb_of (by omega) (by decide)
  have i2 : inb (iN (8 * b + a)) 64 := inb_of (by omega) (by decide)
  -- both cells are set
  have put : ∀ (g : ∀ Q : Option Vl → Mem → Prop, (inb ((iN a * 8) + iN b) 64 ∧ ∀ M3, M3 = st M 59 1 (ix ((iN a * 8) + iN b)) (iN l) → inb ((iN b * 8) + iN a) 64 ∧ ∀ M4, M4 = st M3 59 1 (ix ((iN b * 8) + iN a)) (iN l) → Q none M4) → V X (d + 2) 17 0 [some (vR 50 1), some (vI (iN a)), some (vI (iN b)), some (vI (iN l)), none] [] M Q), nw c l = l → ∃ M', CC X (d + 2) 17 [vR 50 1, vI (iN a), vI (iN b), vI (iN l)] M none M' ∧ (∀ x, x < 64 → M'.1 59 1 x = if x = 8 * a + b ∨ x = 8 * b + a then iN (nw c l) else M.1 59 1 x) ∧ K3 (fun c a j => c = 59 ∧ a = 1) M M' := by
    intro g hnw
    refine ⟨st (st M 59 1 (8 * a + b) (iN l)) 59 1 (8 * b + a) (iN l), e17 (g _ ?_), fun x hx => ?_, k3_trans (k3_st ⟨rfl, rfl⟩) (k3_st ⟨rfl, rfl⟩)⟩
    · rw [ix8, ix_of (by omega), ix8, ix_of (by omega)]
      refine ⟨i1, fun M3 hM3 => ⟨i2, fun M4 hM4 => ?_⟩⟩
      subst hM3
      exact ⟨rfl, hM4⟩
    · rw [hnw]
      by_cases e2 : x = 8 * b + a
      · rw [if_pos (Or.inr e2), e2, st_at]
      · rw [st_ne3 (by omega)]
        by_cases e1 : x = 8 * a + b
        · rw [if_pos (Or.inl e1), e1, st_at]
        · rw [if_neg (by omega), st_ne3 (by omega)]
  by_cases hc0 : c = 0
  · refine put (fun Q hQ => w17_0 ⟨_, _, ca, fun z => absurd z n10, fun _ => ⟨_, _, cb, fun _ => ?_, fun z => absurd z n10⟩⟩) (if_pos hc0)
    refine ⟨by rw [ix8]; exact i1, fun _ => hQ, fun z => absurd ?_ z⟩
    rw [ix8, ix_of (by omega), h1, hc0]
    rfl
  · have nc0 : ¬ iN c = 0 := by rw [show (iN c = 0) = False from neq_ (b := 0) (by omega) (by decide) hc0]; exact id
    by_cases hcl : c ≤ l
    · refine ⟨M, e17 (w17_0 ⟨_, _, ca, fun z => absurd z n10, fun _ => ⟨_, _, cb, fun _ => ?_, fun z => absurd z n10⟩⟩), fun x hx => ?_, k3_refl⟩
      · rw [ix8, ix_of (by omega), h1]
        exact ⟨i1, fun z => absurd z nc0, fun _ => ⟨fun _ => ⟨rfl, rfl⟩, fun z => absurd ((iN_le (by omega) (by omega)).mpr hcl) z⟩⟩
      · rw [show nw c l = c from by unfold nw; rw [if_neg hc0, if_pos hcl]]
        by_cases e1 : x = 8 * a + b
        · rw [if_pos (Or.inl e1), e1, h1]
        · by_cases e2 : x = 8 * b + a
          · rw [if_pos (Or.inr e2), e2, h2]
          · rw [if_neg (by omega)]
    · refine put (fun Q hQ => w17_0 ⟨_, _, ca, fun z => absurd z n10, fun _ => ⟨_, _, cb, fun _ => ?_, fun z => absurd z n10⟩⟩) (by unfold nw; rw [if_neg hc0, if_neg hcl])
      refine ⟨by rw [ix8]; exact i1, fun z => absurd z ?_, fun _ => ⟨fun z => absurd z ?_, fun _ => hQ⟩⟩
      · rw [ix8, ix_of (by omega), h1]
        exact nc0
      · rw [ix8, ix_of (by omega), h1]
        exact fun z => hcl ((iN_le (by omega) (by omega)).mp z)
theorem cv_1 {c l : Nat} (hc : c ≤ 99) (hl : 1 ≤ l) (hl2 : l ≤ 99) : cvN (nw c l) = if cvN c = -1 then iN l else lsr (iN l) (cvN c) := by
  unfold cvN nw
  by_cases h0 : c = 0
  · rw [if_pos h0, if_pos h0, if_neg (by omega), if_pos rfl]
  · rw [if_neg h0, if_neg h0]
    have hne : ¬ iN c = -1 := by
      intro z
      have h2 : (0 : Int32) ≤ iN c := (iN_le (a := 0) (by decide) (by omega)).mpr (Nat.zero_le _)
      rw [z] at h2
      exact absurd h2 (by decide)
    rw [if_neg hne]
    unfold lsr
    by_cases h1 : c ≤ l
    · rw [if_pos h1, if_neg h0, if_pos ((iN_le (by omega) (by omega)).mpr h1)]
    · rw [if_neg h1, if_neg (by omega), if_neg (fun z => h1 ((iN_le (by omega) (by omega)).mp z))]
theorem c193 {X : Cx} {d : Nat} {M : Mem} {a b l c : Nat} (ha : a < 8) (hb : b < 8) (hl : 1 ≤ l) (hl2 : l ≤ 99) (hc : c ≤ 99) (h1 : M.1 107 0 (8 * a + b) = cvN c) : CC X (d + 2) 193 [vR 100 0, vI (iN a), vI (iN b), vI (iN l)] M none (st M 107 0 (8 * a + b) (cvN (nw c l))) := by
  have i1 : inb (iN (8 * a + b)) 144 := inb_of (by omega) (by decide)
  refine e193 (w193_0 ?_)
  rw [ix8', ix_of (by omega), h1]
  refine ⟨i1, fun z => ⟨i1, _, _, c152, i1, fun M2 hM2 => ⟨rfl, ?_⟩⟩, fun z => ⟨i1, fun M3 hM3 => ⟨rfl, ?_⟩⟩⟩
  · rw [hM2, cv_1 hc hl hl2, if_neg z]
  · rw [hM3, cv_1 hc hl hl2, if_pos z]
abbrev PyP : Nat → Nat → Nat → Prop := fun c a j => (c = 3 ∧ a = 0 ∧ (j = 9 ∨ j = 10 ∨ j = 13 ∨ j = 14)) ∨ (a = 1 ∧ ((c = 50 ∧ j = 2) ∨ c = 59))
theorem Lg_y : ∀ c a j, LgP c a j → PyP c a j := fun c a j h => Or.inl h
theorem c52 {X : Cx} {d : Nat} {M : Mem} {b : Nat → Nat} {n m i q h : Nat} {mt : Nat → Nat} (hT : Tok b n m) (hC : CA M b n m i) (hq : q ≤ 16) (h6 : M.1 20 0 6 = iN h) (hh : h ≤ 8) (hm : ∀ x, x < 64 → M.1 59 1 x = iN (mt x) ∧ mt x ≤ 99) (hs : ∀ a c, a < 8 → c < 8 → mt (8 * a + c) = mt (8 * c + a)) : ∃ M', CC X (d + 4) 52 [vR 3 0, vI (iN q)] M none M' ∧ ST M' b n m (wyR (tk b n) h q i) ∧ K3 PyP M M' ∧ ∀ j, wyR (tk b n) h q i = .inl j → M'.1 50 1 2 = iN (q + 1) ∧ ∀ x, x < 64 → M'.1 59 1 x = iN (wup mt (vX (tk b n) h (s40 (tk b n) q 10022 i)) (vX (tk b n) h (wy3 (tk b n) h (s40 (tk b n) q 10022 i))) (vN (tk b n) 1 99 (sX (tk b n) h (wy3 (tk b n) h (s40 (tk b n) q 10022 i)))) x) := by
  obtain ⟨M2, p1, p2, p3⟩ := c40_s (X := X) (d := d + 1) (q := q) (w := 10022) hT (by decide) hC hq
  have e2 : M2.1 20 0 6 = iN h := by rw [p3 20 0 6 (by simp [LgP])]; exact h6
  obtain ⟨M3, q1, q2, q3⟩ := c39_x (X := X) (d := d + 1) (c := h) hT (by omega) p2
  have e3 : M3.1 20 0 6 = iN h := by rw [q3 20 0 6 (by simp [LgP])]; exact e2
  obtain ⟨M4, r1, r2, r3⟩ := c38_s (X := X) (d := d + 1) (w := 10022) hT (by decide) q2
  have e4 : M4.1 20 0 6 = iN h := by rw [r3 20 0 6 (by simp [LgP])]; exact e3
  have k4 : K3 LgP M M4 := k3_trans p3 (k3_trans q3 r3)
  have r2 : ST M4 b n m (wy2 (tk b n) h (s40 (tk b n) q 10022 i)) := r2
  have ha99 : vX (tk b n) h (s40 (tk b n) q 10022 i) < 2147483648 := by
    have := vN_le (t := tk b n) (lo := if h = 0 then 1 else 0) (hi := h - 1) (r := s40 (tk b n) q 10022 i)
    unfold vX
    omega
  unfold wyR wy5
  -- the rest, from a state that is not the same place
  have rest : ∀ {M5 : Mem} {r : R0}, ST M5 b n m r → M5.1 20 0 6 = iN h → K3 LgP M M5 → ∃ M', (∃ (r4 : Int32) (M6 : Mem), CC X (d + 3) 39 [vR 3 0, vI 0, vI ((M5.1 20 0 6) - 1)] M5 (some (vI r4)) M6 ∧ ∃ (r5 : Int32) (M7 : Mem), CC X (d + 3) 39 [vR 3 0, vI 1, vI 99] M6 (some (vI r5)) M7 ∧ ∃ (M8 : Mem), CC X (d + 3) 38 [vR 3 0, vI 20059] M7 none M8 ∧ (¬ (M8.1 3 0 13) = 0 → (none : Option Vl) = none ∧ M8 = M') ∧ ((M8.1 3 0 13) = 0 → ∃ (M9 : Mem), CC X (d + 3) 17 [vR 50 1, vI (iN (vX (tk b n) h (s40 (tk b n) q 10022 i))), vI r4, vI r5] M8 none M9 ∧ ∀ M10, M10 = st M9 50 1 2 (iN q + 1) → (none : Option Vl) = none ∧ M10 = M')) ∧ ST M' b n m (sE (tk b n) 20059 (sN (tk b n) 1 99 (sX (tk b n) h r))) ∧ K3 PyP M M' ∧ ∀ j, (sE (tk b n) 20059 (sN (tk b n) 1 99 (sX (tk b n) h r))) = .inl j → vX (tk b n) h (s40 (tk b n) q 10022 i) < 8 → M'.1 50 1 2 = iN (q + 1) ∧ ∀ x, x < 64 → M'.1 59 1 x = iN (wup mt (vX (tk b n) h (s40 (tk b n) q 10022 i)) (vX (tk b n) h r) (vN (tk b n) 1 99 (sX (tk b n) h r)) x) := by
    intro M5 r h5 e5 k5
    obtain ⟨M6, a1, a2, a3⟩ := c39_x (X := X) (d := d + 1) (c := h) hT (by omega) h5
    obtain ⟨M7, b1, b2, b3⟩ := c39_s (X := X) (d := d + 1) (lo := 1) (hi := 99) hT (by decide) (by decide) a2
    obtain ⟨M8, c1, c2, c3⟩ := c38_s (X := X) (d := d + 1) (w := 20059) hT (by decide) b2
    have k8 : K3 LgP M M8 := k3_trans k5 (k3_trans a3 (k3_trans b3 c3))
    match hf : sE (tk b n) 20059 (sN (tk b n) 1 99 (sX (tk b n) h r)), c2 with
    | .inr (e, p), c2 =>
      have c2 : DD M8 b n m e p := c2
      exact ⟨M8, ⟨_, _, by rw [e5]; exact a1, _, _, b1, _, c1, fun _ => ⟨rfl, rfl⟩, fun z => absurd z (by rw [c2.ne]; exact id)⟩, c2, k3_sub k8 Lg_y, fun j hj => by cases hj⟩
    | .inl j, c2 =>
      have c2 : CA M8 b n m j := c2
      have vh : vX (tk b n) h r < 2147483648 := by
        have := vN_le (t := tk b n) (lo := if h = 0 then 1 else 0) (hi := h - 1) (r := r)
        unfold vX
        omega
      have hbl : ∃ j2, sX (tk b n) h r = .inl j2 := by
        match hx : sX (tk b n) h r with
        | .inl j2 => exact ⟨j2, rfl⟩
        | .inr z =>
          rw [hx] at hf
          cases hf
      obtain ⟨j2, hj2⟩ := hbl
      obtain ⟨s1, s2, s3⟩ := sX_pos hj2
      by_cases ha8 : vX (tk b n) h (s40 (tk b n) q 10022 i) < 8
      · have hl99 := vN_le (t := tk b n) (lo := 1) (hi := 99) (r := sX (tk b n) h r)
        have e59 : ∀ x, M8.1 59 1 x = M.1 59 1 x := fun x => k8 59 1 x (by simp [LgP])
        obtain ⟨M9, d1, d2, d3⟩ := c17 (X := X) (d := d + 1) (M := M8) (a := vX (tk b n) h (s40 (tk b n) q 10022 i)) (b := vX (tk b n) h r) (l := vN (tk b n) 1 99 (sX (tk b n) h r)) (c := mt (8 * vX (tk b n) h (s40 (tk b n) q 10022 i) + vX (tk b n) h r)) ha8 (by omega) hl99 (hm _ (by omega)).2 (by rw [e59]; exact (hm _ (by omega)).1) (by rw [e59, hs _ _ ha8 (by omega)]; exact (hm _ (by omega)).1)
        have k10 : K3 (fun c a j => a = 1 ∧ ((c = 50 ∧ j = 2) ∨ c = 59)) M8 (st M9 50 1 2 (iN (q + 1))) := k3_trans (k3_sub d3 (fun c a j z => by omega)) (k3_st (by omega))
        refine ⟨st M9 50 1 2 (iN (q + 1)), ⟨_, _, by rw [e5]; exact a1, _, _, b1, _, c1, fun z => absurd c2.2.1 z, fun _ => ⟨_, d1, fun M10 hM10 => ⟨rfl, by rw [hM10, iN_step]⟩⟩⟩, ST.k (r := .inl j) k10 (fun c a j z => by omega) c2, k3_trans (k3_sub k8 Lg_y) (k3_sub k10 (fun c a j z => by simp only [PyP]; omega)), fun j' hj' _ => ⟨st_at, fun x hx => ?_⟩⟩
        rw [st_ne3 (fun z => absurd z.1 (by decide)), d2 x hx]
        unfold wup
        by_cases hxx : x = 8 * vX (tk b n) h (s40 (tk b n) q 10022 i) + vX (tk b n) h r ∨ x = 8 * vX (tk b n) h r + vX (tk b n) h (s40 (tk b n) q 10022 i)
        · rw [if_pos hxx, if_pos hxx]
        · rw [if_neg hxx, if_neg hxx, e59]
          exact (hm x hx).1
      · exfalso
        have := vN_le (t := tk b n) (lo := if h = 0 then 1 else 0) (hi := h - 1) (r := s40 (tk b n) q 10022 i)
        unfold vX at ha8
        omega
  have hlt8 : vX (tk b n) h (s40 (tk b n) q 10022 i) < 8 := by
    have := vN_le (t := tk b n) (lo := if h = 0 then 1 else 0) (hi := h - 1) (r := s40 (tk b n) q 10022 i)
    unfold vX
    omega
  have c10 := c34 (X := X) (d := d + 2) (t := 10022) hT hC (by decide)
  unfold wy3
  match hw2 : wy2 (tk b n) h (s40 (tk b n) q 10022 i), r2 with
  | .inr (e, p), r2 =>
    have r2 : DD M4 b n m e p := r2
    obtain ⟨M', f1, f2, f3, f4⟩ := rest (show ST M4 b n m (.inr (e, p)) from r2) e4 k4
    exact ⟨M', e52 (w52_0 ⟨_, _, c10, _, p1, _, _, by rw [e2]; exact q1, _, r1, _, _, c34_d r2, fun _ => f1, fun z => absurd rfl z⟩), f2, f3, fun j hj => f4 j hj hlt8⟩
  | .inl j, r2 =>
    have r2 : CA M4 b n m j := r2
    by_cases hsame : tk b n j = vX (tk b n) h (s40 (tk b n) q 10022 i)
    · simp only [if_pos hsame]
      obtain ⟨M5, t1, t2, t3⟩ := c37 (X := X) (d := d + 2) (e := 2) hT r2 (by decide) (by decide)
      obtain ⟨M', f1, f2, f3, f4⟩ := rest (show ST M5 b n m (.inr (2, j)) from t2) (by rw [t3 20 0 6 (by simp [BlP])]; exact e4) (k3_trans k4 (k3_sub t3 Bl_g))
      exact ⟨M', e52 (w52_0 ⟨_, _, c10, _, p1, _, _, by rw [e2]; exact q1, _, r1, _, _, c34 hT r2 ha99, fun z => absurd z (by rw [bI1 hsame]; exact n10), fun _ => ⟨_, t1, f1⟩⟩), f2, f3, fun j hj => f4 j hj hlt8⟩
    · simp only [if_neg hsame]
      obtain ⟨M', f1, f2, f3, f4⟩ := rest (show ST M4 b n m (.inl j) from r2) e4 k4
      exact ⟨M', e52 (w52_0 ⟨_, _, c10, _, p1, _, _, by rw [e2]; exact q1, _, r1, _, _, c34 hT r2 ha99, fun _ => f1, fun z => absurd (bI0 hsame) z⟩), f2, f3, fun j hj => f4 j hj hlt8⟩
