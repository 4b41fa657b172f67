/-! a row of calls, and the text of the calls -/
def cl2 (t : Nat → Nat) (r0 : R0) : R0 := sE t 10018 (sN t 0 999 r0)
def cl4 (t : Nat → Nat) (h7 : Nat) (r0 : R0) : R0 := sX t h7 (cl2 t r0)
def clF (t : Nat → Nat) (h5 h7 : Nat) (r0 : R0) : R0 × Nat × Nat := fdA t h5 (sE t 10019 (cl4 t h7 r0))
def cl6 (t : Nat → Nat) (h5 h7 : Nat) (r0 : R0) : R0 := sE t 10020 (clF t h5 h7 r0).1
def cl7 (t : Nat → Nat) (h5 h6 h7 : Nat) (r0 : R0) : R0 := sX t h6 (cl6 t h5 h7 r0)
def clR (t : Nat → Nat) (h5 h6 h7 q i : Nat) : R0 := sE t 20059 (cl7 t h5 h6 h7 (s40 t q 10017 i))
theorem sE_in {t : Nat → Nat} {w j : Nat} {r : R0} (h : sE t w r = .inl j) : ∃ i, r = .inl i := by
  match r, h with
  | .inl i, _ => exact ⟨i, rfl⟩
  | .inr z, h => cases h
theorem sN_in {t : Nat → Nat} {lo hi j : Nat} {r : R0} (h : sN t lo hi r = .inl j) : ∃ i, r = .inl i := by
  match r, h with
  | .inl i, _ => exact ⟨i, rfl⟩
  | .inr z, h => cases h
theorem clR_in {t : Nat → Nat} {h5 h6 h7 q i j : Nat} (h : clR t h5 h6 h7 q i = .inl j) : t i = 10017 ∧ q < 16 ∧ s40 t q 10017 i = .inl (i + 1) ∧ ∃ j7 j6 jf j4 j3, cl7 t h5 h6 h7 (.inl (i + 1)) = .inl j7 ∧ cl6 t h5 h7 (.inl (i + 1)) = .inl j6 ∧ (clF t h5 h7 (.inl (i + 1))).1 = .inl jf ∧ cl4 t h7 (.inl (i + 1)) = .inl j4 ∧ sE t 10019 (.inl j4) = .inl j3 := by
  unfold clR at h
  obtain ⟨j7, h7'⟩ := sE_in h
  obtain ⟨j6, h6'⟩ := sN_in (show sN t (if h6 = 0 then 1 else 0) (h6 - 1) (cl6 t h5 h7 (s40 t q 10017 i)) = .inl j7 from h7')
  obtain ⟨jf, hf'⟩ := sE_in (show sE t 10020 (clF t h5 h7 (s40 t q 10017 i)).1 = .inl j6 from h6')
  have h3' : ∃ j3, sE t 10019 (cl4 t h7 (s40 t q 10017 i)) = .inl j3 := by
    unfold clF fdA at hf'
    match hs : sE t 10019 (cl4 t h7 (s40 t q 10017 i)), hf' with
    | .inl j3, _ => exact ⟨j3, rfl⟩
    | .inr z, hf' => cases hf'
  obtain ⟨j3, h3'⟩ := h3'
  obtain ⟨j4, h4'⟩ := sE_in h3'
  obtain ⟨j2, h2'⟩ := sN_in (show sN t (if h7 = 0 then 1 else 0) (h7 - 1) (cl2 t (s40 t q 10017 i)) = .inl j4 from h4')
  obtain ⟨j1, h1'⟩ := sE_in (show sE t 10018 (sN t 0 999 (s40 t q 10017 i)) = .inl j2 from h2')
  obtain ⟨j0, h0'⟩ := sN_in h1'
  obtain ⟨a1, a2, a3⟩ := s40_in h0'
  have e0 : s40 t q 10017 i = .inl (i + 1) := by rw [h0', a3]
  rw [e0] at h7' h6' hf' h3' h4'
  rw [h4'] at h3'
  exact ⟨a1, a2, e0, j7, j6, jf, j4, j3, h7', h6', hf', h4', h3'⟩
theorem clR_ok {t : Nat → Nat} {h5 h6 h7 q i j : Nat} (hh5 : h5 ≤ 10) (h : clR t h5 h6 h7 q i = .inl j) : vX t h7 (cl2 t (.inl (i + 1))) < h7 ∧ vX t h6 (cl6 t h5 h7 (.inl (i + 1))) < h6 ∧ FdOk (clF t h5 h7 (.inl (i + 1))).2.1 (clF t h5 h7 (.inl (i + 1))).2.2 h5 := by
  obtain ⟨a1, a2, a3, j7, j6, jf, j4, j3, b7, b6, bf, b4, b3⟩ := clR_in h
  refine ⟨(sX_pos b4).2.1, (sX_pos b7).2.1, ?_⟩
  unfold clF at bf ⊢
  rw [b4, b3] at bf ⊢
  unfold fdA at bf ⊢
  have hx : ∃ i2, sX t h5 (.inl j3) = .inl i2 := by
    match hs : sX t h5 (.inl j3), bf with
    | .inl i2, _ => exact ⟨i2, rfl⟩
    | .inr z, bf => cases bf
  obtain ⟨i2, hx⟩ := hx
  have hb := (sX_pos hx).2.1
  rw [hx] at bf ⊢
  exact fdL_ok hh5 5 _ i2 (by decide) (FdOk.base hb hh5) jf bf
theorem clR_m {b : Nat → Nat} {n m h5 h6 h7 q i : Nat} (hT : Tok b n m) : inM m (clR (tk b n) h5 h6 h7 q i) :=
  sE_m hT (by decide) (sN_m hT (sE_m hT (by decide) (fdL_m hT 5 _ _ (sN_m hT (sE_m hT (by decide) (sN_m hT (sE_m hT (by decide) (sN_m hT (s40_m hT (by decide))))))))))
theorem clR_g {t : Nat → Nat} {h5 h6 h7 q i : Nat} : gtR i (clR t h5 h6 h7 q i) :=
  sE_g (sN_g (sE_g (fdL_g 5 _ _ (sN_g (sE_g (sN_g (sE_g (sN_g s40_g))))))))
theorem c49 {X : Cx} {d : Nat} {M : Mem} {b : Nat → Nat} {n m i q h5 h6 h7 : Nat} (hT : Tok b n m) (h : CA M b n m i) (hq : q ≤ 16) (e5 : M.1 20 0 5 = iN h5) (e6 : M.1 20 0 6 = iN h6) (e7 : M.1 20 0 7 = iN h7) (hh5 : h5 ≤ 10) (hh6 : h6 ≤ 8) (hh7 : h7 ≤ 12) : ∃ M', CC X (d + 4) 49 [vR 3 0, vI (iN q)] M none M' ∧ ST M' b n m (clR (tk b n) h5 h6 h7 q i) ∧ K3 (PkP q) M M' ∧ ∀ j, clR (tk b n) h5 h6 h7 q i = .inl j → M'.1 53 1 q = iN (vN (tk b n) 0 999 (.inl (i + 1))) ∧ M'.1 54 1 q = iN (vX (tk b n) h7 (cl2 (tk b n) (.inl (i + 1)))) ∧ M'.1 55 1 q = iN (clF (tk b n) h5 h7 (.inl (i + 1))).2.1 ∧ M'.1 56 1 q = iN (vX (tk b n) h6 (cl6 (tk b n) h5 h7 (.inl (i + 1)))) ∧ M'.1 50 1 0 = iN (q + 1) := by
  obtain ⟨M2, a1, a2, a3⟩ := c40_s (X := X) (d := d + 1) (q := q) (w := 10017) hT (by decide) h hq
  obtain ⟨M3, b1, b2, b3⟩ := c39_s (X := X) (d := d + 1) (lo := 0) (hi := 999) hT (by decide) (by decide) a2
  obtain ⟨M4, c1, c2, c3⟩ := c38_s (X := X) (d := d + 1) (w := 10018) hT (by decide) b2
  have k4 : K3 LgP M M4 := k3_trans a3 (k3_trans b3 c3)
  obtain ⟨M5, d1, d2, d3⟩ := c39_x (X := X) (d := d + 1) (c := h7) hT (by omega) c2
  obtain ⟨M6, f1, f2, f3⟩ := c38_s (X := X) (d := d + 1) (w := 10019) hT (by decide) d2
  have k6 : K3 LgP M M6 := k3_trans k4 (k3_trans d3 f3)
  obtain ⟨M7, x, g1, g2, g3, g4⟩ := c50 (X := X) (d := d) hT hh5 f2 (by rw [k6 20 0 5 (by simp [LgP])]; exact e5)
  obtain ⟨M8, l1, l2, l3⟩ := c38_s (X := X) (d := d + 1) (w := 10020) hT (by decide) g2
  have k8 : K3 LgP M M8 := k3_trans k6 (k3_trans g3 l3)
  obtain ⟨M9, o1, o2, o3⟩ := c39_x (X := X) (d := d + 1) (c := h6) hT (by omega) l2
  obtain ⟨M10, q1, q2, q3⟩ := c38_s (X := X) (d := d + 1) (w := 20059) hT (by decide) o2
  have k10 : K3 LgP M M10 := k3_trans k8 (k3_trans o3 q3)
  have c10 := c34 (X := X) (d := d + 2) (t := 10017) hT h (by decide)
  have q2 : ST M10 b n m (clR (tk b n) h5 h6 h7 q i) := q2
  by_cases h16 : q < 16
  · generalize hy : iN (vN (tk b n) 0 999 (s40 (tk b n) q 10017 i)) = y at b1
    generalize hp : iN (vX (tk b n) h7 (sE (tk b n) 10018 (sN (tk b n) 0 999 (s40 (tk b n) q 10017 i)))) = p at d1
    generalize he : iN (vX (tk b n) h6 (sE (tk b n) 10020 (fdL (tk b n) h5 5 (10 + vX (tk b n) h5 (sE (tk b n) 10019 (sX (tk b n) h7 (sE (tk b n) 10018 (sN (tk b n) 0 999 (s40 (tk b n) q 10017 i)))))) (sX (tk b n) h5 (sE (tk b n) 10019 (sX (tk b n) h7 (sE (tk b n) 10018 (sN (tk b n) 0 999 (s40 (tk b n) q 10017 i))))))).1)) = e at o1
    have k15 : K3 (fun c a j => a = 1 ∧ ((c = 50 ∧ j = 0) ∨ (53 ≤ c ∧ c < 57 ∧ j = q))) M10 (st (st (st (st (st M10 53 1 q y) 54 1 q p) 55 1 q x) 56 1 q e) 50 1 0 (iN (q + 1))) := k3_trans (k3_trans (k3_trans (k3_trans (k3_st (by omega)) (k3_st (by omega))) (k3_st (by omega))) (k3_st (by omega))) (k3_st (by omega))
    refine ⟨_, e49 (w49_0 ⟨_, _, c10, _, a1, _, _, b1, _, c1, _, _, by rw [k4 20 0 7 (by simp [LgP]), e7]; exact d1, _, f1, _, _, g1, _, l1, _, _, by rw [k8 20 0 6 (by simp [LgP]), e6]; exact o1, _, q1, fun z => absurd z (q_n hq), fun _ => ⟨fun z => absurd z ?_, fun _ => ⟨inb_of h16 (by decide), fun M11 hM11 => ⟨inb_of h16 (by decide), fun M12 hM12 => ⟨inb_of h16 (by decide), fun M13 hM13 => ⟨inb_of h16 (by decide), fun M14 hM14 M15 hM15 => ?_⟩⟩⟩⟩⟩⟩), ST.k k15 (fun c a j z => by omega) q2, k3_trans (k3_sub k10 Lg_k) (k3_sub k15 (fun c a j z => by simp only [PkP]; omega)), fun j hj => ?_⟩
    · rw [show (16 ≤ iN q) = False from nle_ (a := 16) (by decide) (by omega) (by omega)]
      exact id
    · rw [ix_of (by omega)] at hM11 hM12 hM13 hM14
      subst hM11
      subst hM12
      subst hM13
      subst hM14
      rw [iN_step] at hM15
      exact ⟨rfl, hM15⟩
    · obtain ⟨z1, z2, z3, j7, j6, jf, j4, j3, y7, y6, yf, y4, y3⟩ := clR_in hj
      have hx : x = iN (clF (tk b n) h5 h7 (s40 (tk b n) q 10017 i)).2.1 := g4 ⟨jf, by rw [z3]; exact yf⟩
      rw [st_ne3 (fun z => absurd z.1 (by decide)), st_ne3 (fun z => absurd z.1 (by decide)), st_ne3 (fun z => absurd z.1 (by decide)), st_ne3 (fun z => absurd z.1 (by decide)), st_at, st_ne3 (fun z => absurd z.1 (by decide)), st_ne3 (fun z => absurd z.1 (by decide)), st_ne3 (fun z => absurd z.1 (by decide)), st_at, st_ne3 (fun z => absurd z.1 (by decide)), st_ne3 (fun z => absurd z.1 (by decide)), st_at, st_ne3 (fun z => absurd z.1 (by decide)), st_at, st_at, hx, ← hy, ← hp, ← he]
      rw [z3]
      exact ⟨rfl, rfl, rfl, rfl, rfl⟩
  · refine ⟨M10, e49 (w49_0 ⟨_, _, c10, _, a1, _, _, b1, _, c1, _, _, by rw [k4 20 0 7 (by simp [LgP]), e7]; exact d1, _, f1, _, _, g1, _, l1, _, _, by rw [k8 20 0 6 (by simp [LgP]), e6]; exact o1, _, q1, fun z => absurd z (q_n hq), fun _ => ⟨fun _ => ⟨rfl, rfl⟩, fun z => absurd ?_ z⟩⟩), q2, k3_sub k10 Lg_k, fun j hj => absurd (clR_in hj).2.1 h16⟩
    rw [show q = 16 by omega]
    decide
