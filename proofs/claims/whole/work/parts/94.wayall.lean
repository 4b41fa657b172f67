/-! the text of the ways, read by both -/
def wySt (t : Nat → Nat) (h : Nat) (mt : Nat → Nat) (i : Nat) : Nat → Nat := wup mt (vX t h (.inl (i + 1))) (vX t h (wy3 t h (.inl (i + 1)))) (vN t 1 99 (sX t h (wy3 t h (.inl (i + 1)))))
def wmF (t : Nat → Nat) (h : Nat) (P : List Nat) : Nat → Nat := P.foldl (wySt t h) (fun _ => 0)
theorem wmF_s {t : Nat → Nat} {h i : Nat} {P : List Nat} : wmF t h (P ++ [i]) = wySt t h (wmF t h P) i := by
  unfold wmF
  rw [List.foldl_append]
  rfl
def okW (mt : Nat → Nat) : Prop := (∀ x, mt x ≤ 99) ∧ ∀ a c, a < 8 → c < 8 → mt (8 * a + c) = mt (8 * c + a)
theorem okW_0 {t : Nat → Nat} {h : Nat} : okW (wmF t h []) := ⟨fun _ => Nat.zero_le _, fun _ _ _ _ => rfl⟩
theorem okW_s {t : Nat → Nat} {h i : Nat} {mt : Nat → Nat} (hh : h ≤ 8) (k : okW mt) : okW (wySt t h mt i) := by
  have hl := vN_le (t := t) (lo := 1) (hi := 99) (r := sX t h (wy3 t h (.inl (i + 1))))
  have ha := vN_le (t := t) (lo := if h = 0 then 1 else 0) (hi := h - 1) (r := .inl (i + 1))
  have hb := vN_le (t := t) (lo := if h = 0 then 1 else 0) (hi := h - 1) (r := wy3 t h (.inl (i + 1)))
  have ha8 : vX t h (.inl (i + 1)) < 8 := by unfold vX; omega
  have hb8 : vX t h (wy3 t h (.inl (i + 1))) < 8 := by unfold vX; omega
  unfold wySt
  generalize vX t h (.inl (i + 1)) = A at *
  generalize vX t h (wy3 t h (.inl (i + 1))) = B at *
  generalize vN t 1 99 (sX t h (wy3 t h (.inl (i + 1)))) = l at *
  refine ⟨fun x => ?_, fun a c h1 h2 => ?_⟩
  · unfold wup
    by_cases hx : x = 8 * A + B ∨ x = 8 * B + A
    · rw [if_pos hx]
      have := k.1 (8 * A + B)
      unfold nw
      repeat' split
      all_goals omega
    · rw [if_neg hx]
      exact k.1 x
  · unfold wup
    by_cases hx : 8 * a + c = 8 * A + B ∨ 8 * a + c = 8 * B + A
    · rw [if_pos hx, if_pos (by omega)]
    · rw [if_neg hx, if_neg (by omega)]
      exact k.2 a c h1 h2
theorem wy3_g {t : Nat → Nat} {h i : Nat} {r : R0} (hr : gtR i r) : gtR i (wy3 t h r) := by
  have h2 : gtR i (wy2 t h r) := sE_g (sN_g hr)
  unfold wy3
  match wy2 t h r, h2 with
  | .inr _, _ => trivial
  | .inl j, h2 =>
    by_cases hs : t j = vX t h r
    · simp only [if_pos hs]
      trivial
    · simp only [if_neg hs]
      exact h2
theorem wy3_m {b : Nat → Nat} {n m h : Nat} {r : R0} (hT : Tok b n m) (hr : inM m r) : inM m (wy3 (tk b n) h r) := by
  have h2 : inM m (wy2 (tk b n) h r) := sE_m hT (by decide) (sN_m hT hr)
  unfold wy3
  match wy2 (tk b n) h r, h2 with
  | .inr _, h2 => exact h2
  | .inl j, h2 =>
    by_cases hs : tk b n j = vX (tk b n) h r
    · simp only [if_pos hs]
      show 1 ≤ 2 ∧ 2 ≤ 3
      omega
    · simp only [if_neg hs]
      exact h2
theorem wy5_r {t : Nat → Nat} {h : Nat} {z : Nat × Nat} : wy5 t h (.inr z) = .inr z := rfl
theorem wyR_in {t : Nat → Nat} {h q i j : Nat} (hj : wyR t h q i = .inl j) : t i = 10022 ∧ q < 16 ∧ s40 t q 10022 i = .inl (i + 1) := by
  unfold wyR at hj
  match hs : s40 t q 10022 i, hj with
  | .inr z, hj => cases hj
  | .inl k, hj =>
    obtain ⟨a1, a2, a3⟩ := s40_in hs
    exact ⟨a1, a2, by rw [a3]⟩
theorem c195_way {X : Cx} {d : Nat} {M : Mem} {b : Nat → Nat} {n m i q h : Nat} {mt : Nat → Nat} (hX : StrOk X) (hT : Tok b n m) (hR : RS M b n 3 i) (h230 : M.1 101 0 230 = iN h) (hh : h ≤ 8) (hq : q < 16) (hi : tk b n i = 10022) (hm : ∀ x, x < 64 → M.1 107 0 x = cvN (mt x)) (hk : okW mt) : ∃ M', CC X (d + 12) 195 [vR 100 0] M (some (vI (okR0 (wyR (tk b n) h q i)))) M' ∧ RT M' b n 3 (wyR (tk b n) h q i) ∧ K3 RqP M M' ∧ ∀ j, wyR (tk b n) h q i = .inl j → ∀ x, x < 64 → M'.1 107 0 x = cvN (wySt (tk b n) h mt i x) := by
  have h40 : s40 (tk b n) q 10022 i = .inl (i + 1) := by
    unfold s40
    rw [if_pos hi, if_pos hq]
  have n12 : ¬ M.1 100 0 12 = 1 := by rw [hR.2.1]; decide
  have n22 : ¬ M.1 100 0 12 = 2 := by rw [hR.2.1]; decide
  unfold wyR
  rw [h40]
  obtain ⟨M1, p1, p2, p3, p4⟩ := c194 (X := X) (d := d) hX hT hR h230 hh hi (fun x hx => ⟨hm x hx, hk.1 x⟩) hk.2
  match hs : wy5 (tk b n) h (.inl (i + 1)), p1, p2, p4 with
  | .inr (e, p), p1, p2, p4 => exact ⟨M1, e195 (w195_0 ⟨fun _ => ⟨fun _ => ⟨_, _, p1, fun _ => ⟨isB0, rfl, rfl⟩, fun z => absurd rfl z⟩, fun z => absurd z n22⟩, fun z => absurd z n12⟩), p2, p3, fun j hj => by cases hj⟩
  | .inl j, p1, p2, p4 =>
    obtain ⟨M2, q1, q2, q3⟩ := c177_s (X := X) (d := d + 2) (w := 20059) (r := 159) hX hT (by decide) (show RS M1 b n 3 j from p2) (by decide) (sg_w (c := 59) (by decide) (by decide) (by decide))
    refine ⟨M2, e195 (w195_0 ⟨fun _ => ⟨fun _ => ⟨_, _, p1, fun z => absurd z n10, fun _ => ⟨_, _, q1, fun z => ?_, fun z => ?_⟩⟩, fun z => absurd z n22⟩, fun z => absurd z n12⟩), q2, k3_trans p3 (k3_sub q3 (fun c a j z => z.1)), fun _ _ x hx => ?_⟩
    · rw [z]
      exact ⟨isB0, rfl, rfl⟩
    · rcases okR0_b (r := sE (tk b n) 20059 (.inl j)) with y | y
      · exact absurd y z
      · rw [y]
        exact ⟨isB1, rfl, rfl⟩
    · rw [q3 107 0 x (fun z => z.2 rfl)]
      exact p4 j rfl x hx
def WyI (t : Nat → Nat) (h : Nat) (M : Mem) (P : List Nat) : Prop := okW (wmF t h P) ∧ M.1 20 0 6 = iN h ∧ M.1 50 1 2 = iN P.length ∧ ∀ x, x < 64 → M.1 59 1 x = iN (wmF t h P x)
def WyJ (t : Nat → Nat) (h : Nat) (M : Mem) (P : List Nat) : Prop := okW (wmF t h P) ∧ M.1 101 0 230 = iN h ∧ ∀ x, x < 64 → M.1 107 0 x = cvN (wmF t h P x)
theorem Py_r : ∀ c a j, PyP c a j → RdP c a j := fun c a j h => by simp only [PyP] at h; simp only [RdP]; omega
theorem ways_all {X : Cx} {b : Nat → Nat} {n m h : Nat} (hX : StrOk X) (hT : Tok b n m) (hh : h ≤ 8) : ∃ r : Rr, (∀ (d : Nat) (M : Mem), CA M b n m 0 → WyI (tk b n) h M [] → ∃ M', K3 RdP M M' ∧ rrC (fun P' => CA M' b n m m ∧ WyI (tk b n) h M' P') (fun e p => DD M' b n m e p) r ∧ ∀ Q : Option Vl → Mem → Prop, Q (some (vI (rrR r))) M' → V X (d + 7) 24 46 [some (vR 3 0), some (vI (iN 3)), some (vI (iN 0))] [] M Q) ∧ (∀ (f : Nat) (M : Mem), RS M b n 3 0 → M.1 100 0 15 = iN 0 → WyJ (tk b n) h M [] → ∃ M', K3 RyP M M' ∧ rrC (fun P' => RS M' b n 3 m ∧ M'.1 100 0 15 = iN P'.length ∧ WyJ (tk b n) h M' P') (fun e p => Bad M' b n e p) r ∧ ∀ Q : Option Vl → Mem → Prop, Q (some (vI (rrB r))) M' → V X (f + 40) 196 36 [some (vR 100 0), some (vI 1)] [] M Q) ∧ rrC (fun P' => P'.length ≤ 16 ∧ okW (wmF (tk b n) h P')) (fun e _ => 1 ≤ e ∧ e ≤ 3) r := by
  refine rows_loop (w := 10022) (rtn := 14) (meth := 52) (RR := wyR (tk b n) h) (okP := fun P => okW (wmF (tk b n) h P)) hT (by decide) (by decide) (fun v => rt_wk (by omega)) (by decide) (by decide) (fun q i h => by unfold wyR; rw [s40_n h]; rfl) (fun i h => by unfold wyR; rw [s40_f h]; rfl) (fun q i hi => sE_m hT (by decide) (sN_m hT (sN_m hT (wy3_m hT (s40_m hT (by decide)))))) (fun q i j h1 => ?_) (fun P i j k _ => by rw [wmF_s]; exact okW_s hh k) (fun d i M P hP hC hI => ?_) (fun f i M P hP hi hS h15 hI => ?_) (fun M P x hI => ?_) (fun h1 h2 h3 h4 h5 => ?_) (fun h1 h2 h3 h4 => ?_) (m + 1) 0 [] (by omega) (Nat.zero_le _) (by decide) okW_0
  · have := sE_g (t := tk b n) (w := 20059) (sN_g (t := tk b n) (lo := 1) (hi := 99) (sN_g (t := tk b n) (lo := if h = 0 then 1 else 0) (hi := h - 1) (wy3_g (t := tk b n) (h := h) (s40_g (t := tk b n) (q := q) (w := 10022) (i := i)))))
    have h1 : sE (tk b n) 20059 (sN (tk b n) 1 99 (sN (tk b n) (if h = 0 then 1 else 0) (h - 1) (wy3 (tk b n) h (s40 (tk b n) q 10022 i)))) = .inl j := h1
    rw [h1] at this
    exact this
  · obtain ⟨k1, k2, k3, k4⟩ := hI
    obtain ⟨M', p1, p2, p3, p4⟩ := c52 (X := X) (d := d + 2) hT hC hP k2 hh (fun x hx => ⟨k4 x hx, k1.1 x⟩) k1.2
    refine ⟨M', p1, p2, k3_sub p3 Py_r, fun j hj => ?_⟩
    obtain ⟨a1, a2, a3⟩ := wyR_in hj
    obtain ⟨b1, b2⟩ := p4 j hj
    rw [a3] at b2
    refine ⟨by rw [wmF_s]; exact okW_s hh k1, by rw [p3 20 0 6 (by simp [PyP])]; exact k2, by rw [b1, List.length_append]; rfl, fun x hx => ?_⟩
    rw [wmF_s]
    exact b2 x hx
  · obtain ⟨k1, k2, k3⟩ := hI
    obtain ⟨M', p1, p2, p3, p4⟩ := c195_way (X := X) (d := f + 27) (q := P.length) hX hT hS k2 hh hP hi k3 k1
    refine ⟨M', p1, p2, p3, fun j hj => ⟨by rw [wmF_s]; exact okW_s hh k1, by rw [p3 101 0 230 (by simp [RqP])]; exact k2, fun x hx => ?_⟩⟩
    rw [wmF_s]
    exact p4 j hj x hx
  · exact ⟨hI.1, by rw [st_ne3 (fun z => absurd z.1 (by decide))]; exact hI.2.1, fun y hy => by rw [st_ne3 (fun z => absurd z.1 (by decide))]; exact hI.2.2 y hy⟩
  · exact w24_46 ⟨fun z => absurd z h1, fun _ => ⟨fun z => absurd h2 z, fun _ => ⟨_, _, h3, fun z => absurd rfl z, fun _ => ⟨fun _ => ⟨fun _ => ⟨fun _ => ⟨_, h4, h5⟩, fun z => absurd z (by decide)⟩, fun z => absurd z (by decide)⟩, fun z => absurd z (by decide)⟩⟩⟩⟩
  · exact w196_36 ⟨fun z => absurd z n10, fun _ => ⟨fun z => absurd z h2, fun _ => ⟨fun z => absurd h1 z, fun _ => ⟨h3, h4⟩⟩⟩⟩
