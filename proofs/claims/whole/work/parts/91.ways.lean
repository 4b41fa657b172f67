/-! ranges that may be empty -/
def sX (t : Nat → Nat) (c : Nat) (r : R0) : R0 := sN t (if c = 0 then 1 else 0) (c - 1) r
def vX (t : Nat → Nat) (c : Nat) (r : R0) : Nat := vN t (if c = 0 then 1 else 0) (c - 1) r
theorem inR_x {v c : Nat} (hv : v < 2147483648) (hc : c ≤ 10000) : inR (iN v) 0 (iN c - 1) = (decide ((if c = 0 then 1 else 0) ≤ v) && decide (v ≤ c - 1)) := by
  by_cases h0 : c = 0
  · subst h0
    rw [if_pos rfl]
    unfold inR
    rw [show (iN 0 - 1 : Int32) = -1 from by decide]
    have h1 : decide (iN v ≤ -1) = false := by
      refine decide_eq_false (fun z => ?_)
      have h2 : (0 : Int32) ≤ iN v := (iN_le (a := 0) (by decide) hv).mpr (Nat.zero_le _)
      have h3 := Int32.le_trans h2 z
      exact absurd h3 (by decide)
    rw [h1, Bool.and_false]
    by_cases hv0 : 1 ≤ v
    · rw [decide_eq_false (show ¬ v ≤ 0 - 1 by omega), Bool.and_false]
    · rw [decide_eq_false hv0, Bool.false_and]
  · rw [if_neg h0, iN_dec (by omega)]
    exact inR_d (lo := 0) (hi := c - 1) hv (by decide) (by omega)
theorem c39_x {X : Cx} {d : Nat} {b : Nat → Nat} {n m c : Nat} (hT : Tok b n m) (hc : c ≤ 10000) : ∀ {r : R0} {M : Mem}, ST M b n m r → ∃ M', CC X (d + 2) 39 [vR 3 0, vI 0, vI (iN c - 1)] M (some (vI (iN (vX (tk b n) c r)))) M' ∧ ST M' b n m (sX (tk b n) c r) ∧ K3 LgP M M'
  | .inl i, M, h => by
    have htb := tk_b hT i
    have hin := inR_x (v := tk b n i) (c := c) (by omega) hc
    unfold sX vX sN vN
    by_cases h1 : tk b n i < 10000 ∧ (if c = 0 then 1 else 0) ≤ tk b n i ∧ tk b n i ≤ c - 1
    · simp only [if_pos h1]
      obtain ⟨M', p1, p2, p3⟩ := c39 (X := X) (d := d) (lo := 0) (hi := iN c - 1) hT h h1.1 (by rw [hin, decide_eq_true h1.2.1, decide_eq_true h1.2.2]; rfl)
      exact ⟨M', p1, p2, k3_sub p3 Sp_g⟩
    · simp only [if_neg h1]
      obtain ⟨M', p1, p2, p3⟩ := c39_f (X := X) (d := d) (lo := 0) (hi := iN c - 1) hT h (by
        rw [hin, Bool.and_eq_true, decide_eq_true_eq, decide_eq_true_eq]
        exact h1)
      exact ⟨M', p1, p2, k3_sub p3 Bl_g⟩
  | .inr _, M, h => ⟨M, c39_d h, h, k3_refl⟩
theorem c188_x {X : Cx} {d : Nat} {M : Mem} {b : Nat → Nat} {n m k i q c : Nat} (hX : StrOk X) (hT : Tok b n m) (hk : k ≤ 3) (h : RS M b n k i) (hq : q < 144) (hc : c ≤ 10000) : ∃ M', CC X (d + 9) 188 [vR 100 0, vI (iN q), vI 0, vI (iN c - 1)] M (some (vI (okR0 (sX (tk b n) c (.inl i))))) M' ∧ RT M' b n k (sX (tk b n) c (.inl i)) ∧ (okR0 (sX (tk b n) c (.inl i)) = 1 → M'.1 107 0 q = iN (vX (tk b n) c (.inl i))) ∧ K3 (fun c a j => RqP c a j ∧ (c = 107 → j = q)) M M' := by
  have htb := tk_b hT i
  unfold sX vX sN vN
  have cin := c151 (X := X) (d := d + 7) (M := M) (v := M.1 100 0 20) (lo := 0) (hi := iN c - 1)
  by_cases hlt : tk b n i < 10000
  · have t20 := h.2.2.2.2.2 hlt
    rw [t20, inR_x (by omega) hc, ← Bool.decide_and] at cin
    by_cases h1 : (if c = 0 then 1 else 0) ≤ tk b n i ∧ tk b n i ≤ c - 1
    · simp only [if_pos (show tk b n i < 10000 ∧ (if c = 0 then 1 else 0) ≤ tk b n i ∧ tk b n i ≤ c - 1 from ⟨hlt, h1⟩)]
      rw [decide_eq_true h1] at cin
      obtain ⟨M1, p1, p2, p3⟩ := c175 (X := X) (d := d) hX hk (h.st107 (q := q) (x := iN (tk b n i)))
      refine ⟨M1, e188 (w188_0 ⟨fun _ => ?_, fun z => absurd ((Iff.of_eq (r18_2 hT h)).mpr hlt) z⟩), p2, fun _ => by rw [p3 107 0 q (by simp [NxP]), st_at], k3_trans (k3_st ⟨⟨rfl, Or.inr rfl⟩, fun _ => rfl⟩) (k3_sub p3 (fun c a j z => by simp only [NxP] at z; simp only [RqP]; omega))⟩
      rw [t20]
      refine ⟨_, _, cin, fun _ => ⟨inb_of hq (by decide), fun M2 hM2 => ?_⟩, fun z => absurd z n10⟩
      rw [ix_of (by omega), t20] at hM2
      subst hM2
      exact ⟨_, p1, isB1, rfl, rfl⟩
    · simp only [if_neg (show ¬ (tk b n i < 10000 ∧ (if c = 0 then 1 else 0) ≤ tk b n i ∧ tk b n i ≤ c - 1) from fun z => h1 z.2), if_pos hlt]
      rw [decide_eq_false h1] at cin
      obtain ⟨M1, p1, p2, p3⟩ := c176 (X := X) (d := d + 7) (e := 2) h
      refine ⟨M1, e188 (w188_0 ⟨fun _ => ?_, fun z => absurd ((Iff.of_eq (r18_2 hT h)).mpr hlt) z⟩), p2, fun z => absurd z.symm n10, k3_sub p3 (fun c a j z => by simp only [RqP]; omega)⟩
      rw [t20]
      exact ⟨_, _, cin, fun z => absurd rfl z, fun _ => ⟨_, _, p1, isB0, rfl, rfl⟩⟩
  · simp only [if_neg (show ¬ (tk b n i < 10000 ∧ (if c = 0 then 1 else 0) ≤ tk b n i ∧ tk b n i ≤ c - 1) from fun z => hlt z.1), if_neg hlt]
    obtain ⟨M1, p1, p2, p3⟩ := c176 (X := X) (d := d + 7) (e := 1) h
    exact ⟨M1, e188 (w188_0 ⟨fun z => absurd ((Iff.of_eq (r18_2 hT h)).mp z) hlt, fun _ => ⟨_, _, p1, isB0, rfl, rfl⟩⟩), p2, fun z => absurd z.symm n10, k3_sub p3 (fun c a j z => by simp only [RqP]; omega)⟩
theorem c189_x {X : Cx} {d : Nat} {M : Mem} {b : Nat → Nat} {n m k i q c w r : Nat} (hX : StrOk X) (hT : Tok b n m) (hk : k ≤ 3) (h : RS M b n k i) (hr : r < 2147483648) (hw : ∀ v, (rt k v = r) = (v = w)) (hq : q < 144) (hc : c ≤ 10000) : ∃ M', CC X (d + 10) 189 [vR 100 0, vI (iN q), vI (iN r), vI 0, vI (iN c - 1)] M (some (vI (okR0 (sX (tk b n) c (sE (tk b n) w (.inl i)))))) M' ∧ RT M' b n k (sX (tk b n) c (sE (tk b n) w (.inl i))) ∧ (okR0 (sX (tk b n) c (sE (tk b n) w (.inl i))) = 1 → M'.1 107 0 q = iN (vX (tk b n) c (sE (tk b n) w (.inl i)))) ∧ K3 (RkP q (q + 1)) M M' := by
  obtain ⟨M1, p1, p2, p3⟩ := c177_s (X := X) (d := d) hX hT hk h hr hw
  have k1 : K3 (RkP q (q + 1)) M M1 := k3_sub p3 (fun c a j z => by simp only [RqP] at z; simp only [RkP]; omega)
  match hs : sE (tk b n) w (.inl i), p1, p2 with
  | .inr (e, p), p1, p2 => exact ⟨M1, e189 (w189_0 ⟨_, _, p1, fun _ => ⟨isB0, rfl, rfl⟩, fun z => absurd rfl z⟩), p2, fun z => absurd z.symm n10, k1⟩
  | .inl j, p1, p2 =>
    obtain ⟨M2, q1, q2, q3, q4⟩ := c188_x (X := X) (d := d) (q := q) hX hT hk p2 hq hc
    have k2 := k3_trans k1 (k3_sub q4 (fun c a j z => by simp only [RqP] at z; simp only [RkP]; omega) : K3 (RkP q (q + 1)) M1 M2)
    refine ⟨M2, e189 (w189_0 ⟨_, _, p1, fun z => absurd z n10, fun _ => ⟨_, _, q1, fun z => ?_, fun z => ?_⟩⟩), q2, q3, k2⟩
    · rw [z]
      exact ⟨isB0, rfl, rfl⟩
    · rcases okR0_b (r := sX (tk b n) c (.inl j)) with y | y
      · exact absurd y z
      · rw [y]
        exact ⟨isB1, rfl, rfl⟩
theorem vX_lt {t : Nat → Nat} {c : Nat} {r : R0} (hc : 1 ≤ c) : vX t c r < c := by
  have := vN_le (t := t) (lo := if c = 0 then 1 else 0) (hi := c - 1) (r := r)
  unfold vX
  omega
theorem sX_pos {t : Nat → Nat} {c j : Nat} {r : R0} (h : sX t c r = .inl j) : 1 ≤ c ∧ vX t c r < c ∧ ∃ i, r = .inl i ∧ vX t c r = t i ∧ j = i + 1 := by
  unfold sX at h
  match r, h with
  | .inr z, h => cases h
  | .inl i, h =>
    unfold sN at h
    by_cases h1 : t i < 10000 ∧ (if c = 0 then 1 else 0) ≤ t i ∧ t i ≤ c - 1
    · simp only [if_pos h1] at h
      injection h with h
      have hv : vX t c (.inl i) = t i := by
        unfold vX vN
        simp only [if_pos h1]
      have hc : 1 ≤ c := by
        by_cases hc : c = 0
        · rw [if_pos hc] at h1
          omega
        · omega
      exact ⟨hc, by rw [hv]; omega, i, rfl, hv, h.symm⟩
    · simp only [if_neg h1] at h
      cases h
