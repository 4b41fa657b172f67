/-! a row of fields, read by both -/
def fdL (t : Nat → Nat) (h : Nat) : Nat → Nat → R0 → R0 × Nat × Nat
  | 0, R, .inl i => (if t i < 10000 then (if t i < h then .inr (3, i) else .inr (2, i)) else .inl i, R, 6)
  | c + 1, R, .inl i => if t i < 10000 then (if t i < h then fdL t h c (R * 10 + t i) (.inl (i + 1)) else (.inr (2, i), R, 5 - c)) else (.inl i, R, 5 - c)
  | c, R, .inr z => (.inr z, R, 6 - c)
theorem fdL_r {t : Nat → Nat} {h R : Nat} {z : Nat × Nat} : ∀ {c : Nat}, fdL t h c R (.inr z) = (.inr z, R, 6 - c)
  | 0 => rfl
  | _ + 1 => rfl
def FdOk (R k h : Nat) : Prop := 1 ≤ k ∧ k ≤ 6 ∧ 10 ^ k ≤ R ∧ R < 2 * 10 ^ k ∧ ∀ j, j < k → R / 10 ^ (k - 1 - j) % 10 < h
theorem dg_old {R r k j : Nat} (hr : r < 10) (hj : j < k) : (R * 10 + r) / 10 ^ (k + 1 - 1 - j) % 10 = R / 10 ^ (k - 1 - j) % 10 := by
  rw [show k + 1 - 1 - j = (k - 1 - j) + 1 by omega, Nat.pow_succ, Nat.mul_comm (10 ^ (k - 1 - j)) 10, ← Nat.div_div_eq_div_mul, show (R * 10 + r) / 10 = R by omega]
theorem dg_new {R r k : Nat} (hr : r < 10) : (R * 10 + r) / 10 ^ (k + 1 - 1 - k) % 10 = r := by
  rw [show k + 1 - 1 - k = 0 by omega, Nat.pow_zero, Nat.div_one]
  omega
theorem FdOk.step {R k h r : Nat} (hf : FdOk R k h) (hk : k < 6) (hr : r < h) (hh : h ≤ 10) : FdOk (R * 10 + r) (k + 1) h := by
  obtain ⟨h1, h2, h3, h4, h5⟩ := hf
  refine ⟨by omega, by omega, by rw [Nat.pow_succ]; omega, by rw [Nat.pow_succ]; omega, fun j hj => ?_⟩
  by_cases hjk : j < k
  · rw [dg_old (by omega) hjk]
    exact h5 j hjk
  · rw [show j = k by omega, dg_new (by omega)]
    exact hr
theorem FdOk.base {r h : Nat} (hr : r < h) (hh : h ≤ 10) : FdOk (10 + r) 1 h := by
  refine ⟨by decide, by decide, by omega, by omega, fun j hj => ?_⟩
  rw [show 1 - 1 - j = 0 by omega, Nat.pow_zero, Nat.div_one]
  omega
theorem fdL_ok {t : Nat → Nat} {h : Nat} (hh : h ≤ 10) : ∀ (c R i : Nat), c ≤ 5 → FdOk R (6 - c) h → ∀ j, (fdL t h c R (.inl i)).1 = .inl j → FdOk (fdL t h c R (.inl i)).2.1 (fdL t h c R (.inl i)).2.2 h
  | 0, R, i, _, hf, j, _ => hf
  | c + 1, R, i, hc, hf, j, hj => by
    unfold fdL at hj ⊢
    by_cases h1 : t i < 10000
    · simp only [if_pos h1] at hj ⊢
      by_cases h2 : t i < h
      · simp only [if_pos h2] at hj ⊢
        have := hf.step (by omega) h2 hh
        rw [show 6 - (c + 1) + 1 = 6 - c by omega] at this
        exact fdL_ok hh c _ _ (by omega) this j hj
      · simp only [if_neg h2] at hj
        cases hj
    · simp only [if_neg h1] at hj ⊢
      rw [show 5 - c = 6 - (c + 1) by omega]
      exact hf
theorem fdL_m {b : Nat → Nat} {n m h : Nat} (hT : Tok b n m) : ∀ (c R : Nat) (r : R0), inM m r → inM m (fdL (tk b n) h c R r).1
  | 0, R, .inl i, hr => by
    unfold fdL
    by_cases h1 : tk b n i < 10000
    · simp only [if_pos h1]
      by_cases h2 : tk b n i < h
      · simp only [if_pos h2]
        show 1 ≤ 3 ∧ 3 ≤ 3
        omega
      · simp only [if_neg h2]
        show 1 ≤ 2 ∧ 2 ≤ 3
        omega
    · simp only [if_neg h1]
      exact hr
  | c + 1, R, .inl i, hr => by
    unfold fdL
    by_cases h1 : tk b n i < 10000
    · simp only [if_pos h1]
      by_cases h2 : tk b n i < h
      · simp only [if_pos h2]
        have := tk_in hT (k := i) (by omega)
        exact fdL_m hT c _ _ (show i + 1 ≤ m by omega)
      · simp only [if_neg h2]
        show 1 ≤ 2 ∧ 2 ≤ 3
        omega
    · simp only [if_neg h1]
      exact hr
  | 0, R, .inr z, hr => hr
  | c + 1, R, .inr z, hr => hr
theorem fdL_g {t : Nat → Nat} {h i0 : Nat} : ∀ (c R : Nat) (r : R0), gtR i0 r → gtR i0 (fdL t h c R r).1
  | 0, R, .inl i, hr => by
    unfold fdL
    by_cases h1 : t i < 10000
    · simp only [if_pos h1]
      by_cases h2 : t i < h
      · simp only [if_pos h2]
        trivial
      · simp only [if_neg h2]
        trivial
    · simp only [if_neg h1]
      exact hr
  | c + 1, R, .inl i, hr => by
    unfold fdL
    by_cases h1 : t i < 10000
    · simp only [if_pos h1]
      by_cases h2 : t i < h
      · simp only [if_pos h2]
        exact fdL_g c _ _ (Nat.lt_succ_of_lt hr)
      · simp only [if_neg h2]
        trivial
    · simp only [if_neg h1]
      exact hr
  | 0, R, .inr z, hr => trivial
  | c + 1, R, .inr z, hr => trivial
theorem noInl {z : Nat × Nat} {P : Prop} (h : ∃ j, (Sum.inr z : R0) = .inl j) : P := by
  obtain ⟨j, h⟩ := h
  cases h
theorem c50_dd {X : Cx} {d : Nat} {M : Mem} {b : Nat → Nat} {n m e p : Nat} {x1 x2 : Int32} {Q : Option Vl → Mem → Prop} (h : DD M b n m e p) (hQ : Q (some (vI x1)) M) : V X (d + 3) 50 20 [some (vR 3 0), some (vI x1), some (vI x2)] [] M Q := w50_20 ⟨fun _ => hQ, fun _ => ⟨_, _, c35_d h, fun _ => hQ, fun z => absurd rfl z⟩⟩
theorem sX_if {t : Nat → Nat} {c i : Nat} : sX t c (.inl i) = if t i < 10000 ∧ t i < c then .inl (i + 1) else .inr (if t i < 10000 then 2 else 1, i) := by
  unfold sX sN
  by_cases h1 : t i < 10000 ∧ t i < c
  · rw [if_pos h1]
    simp only [if_pos (show t i < 10000 ∧ (if c = 0 then 1 else 0) ≤ t i ∧ t i ≤ c - 1 from ⟨h1.1, by rw [if_neg (by omega)]; omega, by omega⟩)]
  · rw [if_neg h1]
    have : ¬ (t i < 10000 ∧ (if c = 0 then 1 else 0) ≤ t i ∧ t i ≤ c - 1) := by
      intro z
      by_cases hc : c = 0
      · rw [if_pos hc] at z
        omega
      · omega
    simp only [if_neg this]
theorem vX_if {t : Nat → Nat} {c i : Nat} (h1 : t i < 10000 ∧ t i < c) : vX t c (.inl i) = t i := by
  unfold vX vN
  simp only [if_pos (show t i < 10000 ∧ (if c = 0 then 1 else 0) ≤ t i ∧ t i ≤ c - 1 from ⟨h1.1, by rw [if_neg (by omega)]; omega, by omega⟩)]
theorem c50_run {X : Cx} {d : Nat} {b : Nat → Nat} {n m h : Nat} (hT : Tok b n m) (hh : h ≤ 10) : ∀ (c R : Nat) (r : R0) (M : Mem), c ≤ 5 → ST M b n m r → M.1 20 0 5 = iN h → ∃ (M' : Mem) (x : Int32), ST M' b n m (fdL (tk b n) h c R r).1 ∧ K3 LgP M M' ∧ ((∃ j, (fdL (tk b n) h c R r).1 = .inl j) → x = iN (fdL (tk b n) h c R r).2.1) ∧ ∀ Q : Option Vl → Mem → Prop, Q (some (vI x)) M' → V X (d + 3) 50 20 [some (vR 3 0), some (vI (iN R)), some (vI (iN (6 - c)))] [] M Q := by
  intro c
  induction c with
  | zero =>
    intro R r M hc hS h5
    match r, hS with
    | .inr (e, p), hS => exact ⟨M, iN R, hS, k3_refl, fun z => noInl z, fun Q hQ => c50_dd hS hQ⟩
    | .inl i, hS =>
      have hS : CA M b n m i := hS
      have htb := tk_b hT i
      unfold fdL
      by_cases h1 : tk b n i < 10000
      · simp only [if_pos h1]
        by_cases h2 : tk b n i < h
        · simp only [if_pos h2]
          obtain ⟨M1, p1, p2, p3⟩ := c37 (X := X) (d := d + 1) (e := 3) hT hS (by decide) (by decide)
          refine ⟨M1, iN R, p2, k3_sub p3 Bl_g, fun z => noInl z, fun Q hQ => w50_20 ⟨fun z => absurd z (by decide), fun _ => ⟨_, _, c35 hT hS, fun z => absurd z (by rw [bI1 h1]; exact n10), fun _ => ⟨fun z => absurd rfl z, fun _ => ⟨fun z => absurd z ?_, fun _ => ⟨_, p1, c50_dd p2 hQ⟩⟩⟩⟩⟩⟩
          rw [h5, hS.2.2.2.1]
          exact fun z => absurd ((iN_le (by omega) (by omega)).mp z) (by omega)
        · simp only [if_neg h2]
          obtain ⟨M1, p1, p2, p3⟩ := c39_x (X := X) (d := d) (c := h) hT (by omega) (show ST M b n m (.inl i) from hS)
          rw [sX_if, if_neg (fun z => h2 z.2), if_pos h1] at p2
          refine ⟨M1, iN R * 10 + iN (vX (tk b n) h (.inl i)), p2, p3, fun z => noInl z, fun Q hQ => w50_20 ⟨fun z => absurd z (by decide), fun _ => ⟨_, _, c35 hT hS, fun z => absurd z (by rw [bI1 h1]; exact n10), fun _ => ⟨fun z => absurd rfl z, fun _ => ⟨fun _ => ⟨_, _, by rw [h5]; exact p1, c50_dd p2 hQ⟩, fun z => absurd ?_ z⟩⟩⟩⟩⟩
          rw [h5, hS.2.2.2.1]
          exact (iN_le (by omega) (by omega)).mpr (by omega)
      · simp only [if_neg h1]
        exact ⟨M, iN R, hS, k3_refl, fun _ => rfl, fun Q hQ => w50_20 ⟨fun z => absurd z (by decide), fun _ => ⟨_, _, c35 hT hS, fun _ => hQ, fun z => absurd (bI0 h1) z⟩⟩⟩
  | succ c ih =>
    intro R r M hc hS h5
    match r, hS with
    | .inr (e, p), hS => exact ⟨M, iN R, hS, k3_refl, fun z => noInl z, fun Q hQ => c50_dd hS hQ⟩
    | .inl i, hS =>
      have hS : CA M b n m i := hS
      have htb := tk_b hT i
      have g6 : ¬ 6 < iN (6 - (c + 1)) := by rw [show (6 < iN (6 - (c + 1))) = False from nlt_ (a := 6) (by decide) (by omega) (by omega)]; exact id
      have g6' : ¬ iN (6 - (c + 1)) = 6 := by rw [show (iN (6 - (c + 1)) = 6) = False from neq_ (b := 6) (by omega) (by decide) (by omega)]; exact id
      unfold fdL
      by_cases h1 : tk b n i < 10000
      · simp only [if_pos h1]
        obtain ⟨M1, p1, p2, p3⟩ := c39_x (X := X) (d := d) (c := h) hT (by omega) (show ST M b n m (.inl i) from hS)
        rw [sX_if] at p2
        by_cases h2 : tk b n i < h
        · simp only [if_pos h2]
          rw [if_pos ⟨h1, h2⟩] at p2
          rw [vX_if ⟨h1, h2⟩] at p1
          obtain ⟨M', x, f1, f2, f3, f4⟩ := ih (R * 10 + tk b n i) (.inl (i + 1)) M1 (by omega) p2 (by rw [p3 20 0 5 (by simp [LgP])]; exact h5)
          refine ⟨M', x, f1, k3_trans p3 f2, f3, fun Q hQ => w50_20 ⟨fun z => absurd z g6, fun _ => ⟨_, _, c35 hT hS, fun z => absurd z (by rw [bI1 h1]; exact n10), fun _ => ⟨fun _ => ⟨_, _, by rw [h5]; exact p1, ?_⟩, fun z => absurd z g6'⟩⟩⟩⟩
          rw [show iN R * 10 + iN (tk b n i) = iN (R * 10 + tk b n i) by simp only [iN_lit, iN_mul, iN_add], iN_step, show 6 - (c + 1) + 1 = 6 - c by omega]
          exact f4 Q hQ
        · simp only [if_neg h2]
          rw [if_neg (fun z => h2 z.2), if_pos h1] at p2
          exact ⟨M1, iN R * 10 + iN (vX (tk b n) h (.inl i)), p2, p3, fun z => noInl z, fun Q hQ => w50_20 ⟨fun z => absurd z g6, fun _ => ⟨_, _, c35 hT hS, fun z => absurd z (by rw [bI1 h1]; exact n10), fun _ => ⟨fun _ => ⟨_, _, by rw [h5]; exact p1, c50_dd p2 hQ⟩, fun z => absurd z g6'⟩⟩⟩⟩
      · simp only [if_neg h1]
        exact ⟨M, iN R, hS, k3_refl, fun _ => rfl, fun Q hQ => w50_20 ⟨fun z => absurd z g6, fun _ => ⟨_, _, c35 hT hS, fun _ => hQ, fun z => absurd (bI0 h1) z⟩⟩⟩
theorem c50 {X : Cx} {d : Nat} {M : Mem} {b : Nat → Nat} {n m h : Nat} {r : R0} (hT : Tok b n m) (hh : h ≤ 10) (hS : ST M b n m r) (h5 : M.1 20 0 5 = iN h) : ∃ (M' : Mem) (x : Int32), CC X (d + 3) 50 [vR 3 0] M (some (vI x)) M' ∧ ST M' b n m (fdL (tk b n) h 5 (10 + vX (tk b n) h r) (sX (tk b n) h r)).1 ∧ K3 LgP M M' ∧ ((∃ j, (fdL (tk b n) h 5 (10 + vX (tk b n) h r) (sX (tk b n) h r)).1 = .inl j) → x = iN (fdL (tk b n) h 5 (10 + vX (tk b n) h r) (sX (tk b n) h r)).2.1) := by
  obtain ⟨M1, p1, p2, p3⟩ := c39_x (X := X) (d := d) (c := h) hT (by omega) hS
  obtain ⟨M', x, f1, f2, f3, f4⟩ := c50_run (X := X) (d := d) hT hh 5 (10 + vX (tk b n) h r) _ M1 (by decide) p2 (by rw [p3 20 0 5 (by simp [LgP])]; exact h5)
  refine ⟨M', x, e50 (w50_0 ⟨_, _, by rw [h5]; exact p1, ?_⟩), f1, k3_trans p3 f2, f3⟩
  rw [show 10 + iN (vX (tk b n) h r) = iN (10 + vX (tk b n) h r) by simp only [iN_lit, iN_add]]
  exact f4 _ ⟨rfl, rfl⟩
