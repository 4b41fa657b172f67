/-! a row of sky, read by both -/
def s40 (t : Nat → Nat) (q w i : Nat) : R0 := if t i = w then (if q < 16 then .inl (i + 1) else .inr (3, i)) else .inr (1, i)
theorem c40_s {X : Cx} {d : Nat} {M : Mem} {b : Nat → Nat} {n m i q w : Nat} (hT : Tok b n m) (hw : w < 30001) (h : CA M b n m i) (hq : q ≤ 16) : ∃ M', CC X (d + 2) 40 [vR 3 0, vI (bI (decide (tk b n i = w))), vI (iN q)] M none M' ∧ ST M' b n m (s40 (tk b n) q w i) ∧ K3 LgP M M' := by
  unfold s40
  by_cases h1 : tk b n i = w
  · rw [if_pos h1, decide_eq_true h1]
    by_cases h2 : q < 16
    · rw [if_pos h2]
      obtain ⟨M', p1, p2, p3⟩ := c40 (X := X) (d := d) hT h (tk_in hT (by omega)) h2
      exact ⟨M', p1, p2, k3_sub p3 Sp_g⟩
    · rw [if_neg h2]
      obtain ⟨M', p1, p2, p3⟩ := c40_f (X := X) (d := d) (f := true) hT h hq (fun _ => by omega)
      exact ⟨M', p1, p2, k3_sub p3 Bl_g⟩
  · rw [if_neg h1, decide_eq_false h1]
    obtain ⟨M', p1, p2, p3⟩ := c40_f (X := X) (d := d) (f := false) hT h hq (fun z => absurd z (by decide))
    exact ⟨M', p1, p2, k3_sub p3 Bl_g⟩
abbrev PkP (q : Nat) : Nat → Nat → Nat → Prop := fun c a j => (c = 3 ∧ a = 0 ∧ (j = 9 ∨ j = 10 ∨ j = 13 ∨ j = 14)) ∨ (a = 1 ∧ ((c = 50 ∧ j < 2) ∨ (53 ≤ c ∧ c < 59 ∧ j = q)))
theorem Lg_k {q : Nat} : ∀ c a j, LgP c a j → PkP q c a j := fun c a j h => Or.inl h
theorem ST.k {M M2 : Mem} {b : Nat → Nat} {n m : Nat} {P : Nat → Nat → Nat → Prop} (kk : K3 P M M2) (hp : ∀ c a j, P c a j → a = 1 ∧ 50 ≤ c) : ∀ {r : R0}, ST M b n m r → ST M2 b n m r
  | .inl i, h => by
    obtain ⟨w, hw, h11⟩ := (show CA M b n m i from h).2.2.2.2.2.2.1
    have g : ∀ c a j, (a = 0 ∨ c < 50) → ¬ P c a j := fun c a j z y => by have := hp c a j y; omega
    exact CA.k h kk (g _ _ _ (by omega)) (g _ _ _ (by omega)) (g _ _ _ (by omega)) (g _ _ _ (by omega)) (fun _ => g _ _ _ (by omega)) (fun _ => g _ _ _ (by omega)) (g _ _ _ (by omega)) hw (by rw [kk 3 0 11 (g _ _ _ (by omega))]; exact h11) (g _ _ _ (by omega))
  | .inr (e, p), h => by
    obtain ⟨w, hw, h11⟩ := (show DD M b n m e p from h).2.2.2.2.2.2.2
    have g : ∀ c a j, (a = 0 ∨ c < 50) → ¬ P c a j := fun c a j z y => by have := hp c a j y; omega
    exact DD.k h kk (g _ _ _ (by omega)) (g _ _ _ (by omega)) (g _ _ _ (by omega)) (g _ _ _ (by omega)) (fun _ => g _ _ _ (by omega)) (fun _ => g _ _ _ (by omega)) (g _ _ _ (by omega)) hw (by rw [kk 3 0 11 (g _ _ _ (by omega))]; exact h11)
def SkE (X : Cx) (d : Nat) (M5 : Mem) (p0 r2 s : Int32) (Q : Option Vl → Mem → Prop) : Prop := ∃ (M7 : Mem), CC X d 38 [vR 3 0, vI 20059] M5 none M7 ∧ (p0 < 0 → Q none M7) ∧ (¬ p0 < 0 → (16 ≤ p0 → Q none M7) ∧ (¬ 16 ≤ p0 → inb p0 16 ∧ ∀ M8, M8 = st M7 57 1 (ix p0) r2 → inb p0 16 ∧ ∀ M9, M9 = st M8 58 1 (ix p0) s → ∀ M10, M10 = st M9 50 1 1 (p0 + 1) → Q none M10))
theorem SkE_s {X : Cx} {d : Nat} {M : Mem} {b : Nat → Nat} {n m q : Nat} {r : R0} {x y : Int32} (hT : Tok b n m) (h : ST M b n m r) (hq : q ≤ 16) : ∃ M', ST M' b n m (sE (tk b n) 20059 r) ∧ (q < 16 → M'.1 57 1 q = x ∧ M'.1 58 1 q = y ∧ M'.1 50 1 1 = iN (q + 1)) ∧ K3 (PkP q) M M' ∧ ∀ Q : Option Vl → Mem → Prop, Q none M' → SkE X (d + 2) M (iN q) x y Q := by
  obtain ⟨M1, p1, p2, p3⟩ := c38_s (X := X) (d := d) (w := 20059) hT (by decide) h
  by_cases h16 : q < 16
  · have k1 : K3 (fun c a j => a = 1 ∧ ((c = 50 ∧ j = 1) ∨ (57 ≤ c ∧ c < 59 ∧ j = q))) M1 (st (st (st M1 57 1 q x) 58 1 q y) 50 1 1 (iN (q + 1))) := k3_trans (k3_trans (k3_st (by omega)) (k3_st (by omega))) (k3_st (by omega))
    refine ⟨_, ST.k k1 (fun c a j z => by omega) p2, fun _ => ⟨by rw [st_ne3 (fun z => absurd z.1 (by decide)), st_ne3 (fun z => absurd z.1 (by decide)), st_at], by rw [st_ne3 (fun z => absurd z.1 (by decide)), st_at], st_at⟩, k3_trans (k3_sub p3 Lg_k) (k3_sub k1 (fun c a j z => by simp only [PkP]; omega)), fun Q hQ => ⟨_, p1, fun z => absurd z (q_n hq), fun _ => ⟨fun z => absurd z ?_, fun _ => ⟨inb_of h16 (by decide), fun M8 hM8 => ⟨inb_of h16 (by decide), fun M9 hM9 M10 hM10 => ?_⟩⟩⟩⟩⟩
    · rw [show (16 ≤ iN q) = False from nle_ (a := 16) (by decide) (by omega) (by omega)]
      exact id
    · rw [ix_of (by omega)] at hM8 hM9
      subst hM8
      subst hM9
      rw [iN_step] at hM10
      subst hM10
      exact hQ
  · refine ⟨M1, p2, fun z => absurd z h16, k3_sub p3 Lg_k, fun Q hQ => ⟨_, p1, fun z => absurd z (q_n hq), fun _ => ⟨fun _ => hQ, fun z => absurd ?_ z⟩⟩⟩
    rw [show q = 16 by omega]
    decide
def sk3 (t : Nat → Nat) (r0 : R0) : R0 := match sN t 0 999 r0 with
  | .inl j => if t j = 10005 then sN t 0 9 (.inl (j + 1)) else if t j = 10006 then .inl (j + 1) else sE t 10021 (.inl j)
  | .inr z => .inr z
def skv (t : Nat → Nat) (r0 : R0) : Nat := match sN t 0 999 r0 with
  | .inl j => if t j = 10005 then vN t 0 9 (.inl (j + 1)) else if t j = 10006 then 10 else 11
  | .inr _ => 11
def skyR (t : Nat → Nat) (q i : Nat) : R0 := sE t 20059 (sk3 t (s40 t q 10017 i))
theorem c51 {X : Cx} {d : Nat} {M : Mem} {b : Nat → Nat} {n m i q : Nat} (hT : Tok b n m) (h : CA M b n m i) (hq : q ≤ 16) : ∃ M', CC X (d + 3) 51 [vR 3 0, vI (iN q)] M none M' ∧ ST M' b n m (skyR (tk b n) q i) ∧ (q < 16 → M'.1 57 1 q = iN (vN (tk b n) 0 999 (s40 (tk b n) q 10017 i)) ∧ M'.1 58 1 q = iN (skv (tk b n) (s40 (tk b n) q 10017 i)) ∧ M'.1 50 1 1 = iN (q + 1)) ∧ K3 (PkP q) M M' := by
  obtain ⟨M2, p1, p2, p3⟩ := c40_s (X := X) (d := d) (q := q) (w := 10017) hT (by decide) h hq
  obtain ⟨M3, q1, q2, q3⟩ := c39_s (X := X) (d := d) (lo := 0) (hi := 999) hT (by decide) (by decide) p2
  unfold skyR sk3 skv
  match hs : sN (tk b n) 0 999 (s40 (tk b n) q 10017 i), q2 with
  | .inr (e, p), q2 =>
    obtain ⟨M', f1, f2, f3, f4⟩ := SkE_s (X := X) (d := d) (x := iN (vN (tk b n) 0 999 (s40 (tk b n) q 10017 i))) (y := 11) hT (show ST M3 b n m (.inr (e, p)) from q2) hq
    refine ⟨M', e51 (w51_0 ⟨_, _, c34 (t := 10017) hT h (by decide), _, p1, _, _, q1, _, _, c34_d q2, fun _ => ⟨_, _, c34_d q2, fun _ => ⟨_, c38_d q2, f4 (fun r' M2 => r' = none ∧ M2 = M') ⟨rfl, rfl⟩⟩, fun z => absurd rfl z⟩, fun z => absurd rfl z⟩), f1, f2, k3_trans (k3_sub p3 Lg_k) (k3_trans (k3_sub q3 Lg_k) f3)⟩
  | .inl j, q2 =>
    have q2 : CA M3 b n m j := q2
    by_cases h5 : tk b n j = 10005
    · simp only [if_pos h5]
      obtain ⟨M4, r1, r2, r3⟩ := c36 (X := X) (d := d + 1) hT q2 (tk_in hT (by omega))
      obtain ⟨M5, s1, s2, s3⟩ := c39_s (X := X) (d := d) (lo := 0) (hi := 9) hT (by decide) (by decide) (show ST M4 b n m (.inl (j + 1)) from r2)
      obtain ⟨M', f1, f2, f3, f4⟩ := SkE_s (X := X) (d := d) (x := iN (vN (tk b n) 0 999 (s40 (tk b n) q 10017 i))) (y := iN (vN (tk b n) 0 9 (.inl (j + 1)))) hT s2 hq
      exact ⟨M', e51 (w51_0 ⟨_, _, c34 (t := 10017) hT h (by decide), _, p1, _, _, q1, _, _, c34 (t := 10005) hT q2 (by decide), fun z => absurd z (by rw [bI1 h5]; exact n10), fun _ => ⟨_, r1, _, _, s1, f4 (fun r' M2 => r' = none ∧ M2 = M') ⟨rfl, rfl⟩⟩⟩), f1, f2, k3_trans (k3_sub p3 Lg_k) (k3_trans (k3_sub q3 Lg_k) (k3_trans (k3_sub r3 (fun c a j z => Lg_k c a j (Sp_g c a j z))) (k3_trans (k3_sub s3 Lg_k) f3)))⟩
    · simp only [if_neg h5]
      by_cases h6 : tk b n j = 10006
      · simp only [if_pos h6]
        obtain ⟨M4, r1, r2, r3⟩ := c36 (X := X) (d := d + 1) hT q2 (tk_in hT (by omega))
        obtain ⟨M', f1, f2, f3, f4⟩ := SkE_s (X := X) (d := d) (x := iN (vN (tk b n) 0 999 (s40 (tk b n) q 10017 i))) (y := 10) hT (show ST M4 b n m (.inl (j + 1)) from r2) hq
        exact ⟨M', e51 (w51_0 ⟨_, _, c34 (t := 10017) hT h (by decide), _, p1, _, _, q1, _, _, c34 (t := 10005) hT q2 (by decide), fun _ => ⟨_, _, c34 (t := 10006) hT q2 (by decide), fun z => absurd z (by rw [bI1 h6]; exact n10), fun _ => ⟨_, r1, f4 (fun r' M2 => r' = none ∧ M2 = M') ⟨rfl, rfl⟩⟩⟩, fun z => absurd (bI0 h5) z⟩), f1, f2, k3_trans (k3_sub p3 Lg_k) (k3_trans (k3_sub q3 Lg_k) (k3_trans (k3_sub r3 (fun c a j z => Lg_k c a j (Sp_g c a j z))) f3))⟩
      · simp only [if_neg h6]
        obtain ⟨M4, r1, r2, r3⟩ := c38_s (X := X) (d := d) (w := 10021) hT (by decide) (show ST M3 b n m (.inl j) from q2)
        obtain ⟨M', f1, f2, f3, f4⟩ := SkE_s (X := X) (d := d) (x := iN (vN (tk b n) 0 999 (s40 (tk b n) q 10017 i))) (y := 11) hT r2 hq
        exact ⟨M', e51 (w51_0 ⟨_, _, c34 (t := 10017) hT h (by decide), _, p1, _, _, q1, _, _, c34 (t := 10005) hT q2 (by decide), fun _ => ⟨_, _, c34 (t := 10006) hT q2 (by decide), fun _ => ⟨_, r1, f4 (fun r' M2 => r' = none ∧ M2 = M') ⟨rfl, rfl⟩⟩, fun z => absurd (bI0 h6) z⟩, fun z => absurd (bI0 h5) z⟩), f1, f2, k3_trans (k3_sub p3 Lg_k) (k3_trans (k3_sub q3 Lg_k) (k3_trans (k3_sub r3 Lg_k) f3))⟩
/-! the reference's row of sky -/
abbrev RkP (lo hi : Nat) : Nat → Nat → Nat → Prop := fun c a j => a = 0 ∧ ((c = 100 ∧ (j = 17 ∨ j = 18 ∨ j = 19 ∨ j = 20 ∨ j = 21 ∨ j = 22)) ∨ (c = 107 ∧ lo ≤ j ∧ j < hi))
/-- told: a word, then a number -/
theorem c189_s {X : Cx} {d : Nat} {M : Mem} {b : Nat → Nat} {n m k i q lo hi w r : Nat} (hX : StrOk X) (hT : Tok b n m) (hk : k ≤ 3) (h : RS M b n k i) (hr : r < 2147483648) (hw : ∀ v, (rt k v = r) = (v = w)) (hq : q < 144) (hlo : lo < 10000) (hhi : hi < 10000) : ∃ M', CC X (d + 10) 189 [vR 100 0, vI (iN q), vI (iN r), vI (iN lo), vI (iN hi)] M (some (vI (okR0 (sN (tk b n) lo hi (sE (tk b n) w (.inl i)))))) M' ∧ RT M' b n k (sN (tk b n) lo hi (sE (tk b n) w (.inl i))) ∧ (okR0 (sN (tk b n) lo hi (sE (tk b n) w (.inl i))) = 1 → M'.1 107 0 q = iN (vN (tk b n) lo hi (sE (tk b n) w (.inl i)))) ∧ K3 (RkP q (q + 1)) M M' := by
  obtain ⟨M1, p1, p2, p3⟩ := c177_s (X := X) (d := d) hX hT hk h hr hw
  have k1 : K3 (RkP q (q + 1)) M M1 := k3_sub p3 (fun c a j z => by simp only [RqP] at z; simp only [RkP]; omega)
  match hs : sE (tk b n) w (.inl i), p1, p2 with
  | .inr (e, p), p1, p2 => exact ⟨M1, e189 (w189_0 ⟨_, _, p1, fun _ => ⟨isB0, rfl, rfl⟩, fun z => absurd rfl z⟩), p2, fun z => absurd z.symm n10, k1⟩
  | .inl j, p1, p2 =>
    obtain ⟨M2, q1, q2, q3, q4⟩ := c188_s (X := X) (d := d) (q := q) hX hT hk p2 hq hlo hhi
    have k2 := k3_trans k1 (k3_sub q4 (fun c a j z => by simp only [RqP] at z; simp only [RkP]; omega) : K3 (RkP q (q + 1)) M1 M2)
    refine ⟨M2, e189 (w189_0 ⟨_, _, p1, fun z => absurd z n10, fun _ => ⟨_, _, q1, fun z => ?_, fun z => ?_⟩⟩), q2, q3, k2⟩
    · rw [z]
      exact ⟨isB0, rfl, rfl⟩
    · match sN (tk b n) lo hi (.inl j), z with
      | .inl _, z => exact ⟨isB1, rfl, rfl⟩
      | .inr _, z => exact absurd rfl z
