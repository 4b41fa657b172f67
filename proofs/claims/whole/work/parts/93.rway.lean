/-! the reference's row of ways -/
theorem wup_cv {M : Mem} {mt : Nat → Nat} {a b l : Nat} {v : Int32} (hs : mt (8 * b + a) = mt (8 * a + b)) (hv : v = cvN (nw (mt (8 * a + b)) l)) (h : ∀ x, x < 64 → M.1 107 0 x = cvN (mt x)) : ∀ x, x < 64 → (st (st M 107 0 (8 * a + b) v) 107 0 (8 * b + a) v).1 107 0 x = cvN (wup mt a b l x) := by
  intro x hx
  unfold wup
  by_cases e2 : x = 8 * b + a
  · rw [if_pos (Or.inr e2), e2, st_at, hv]
  · rw [st_ne3 (by omega)]
    by_cases e1 : x = 8 * a + b
    · rw [if_pos (Or.inl e1), e1, st_at, hv]
    · rw [if_neg (by omega), st_ne3 (by omega)]
      exact h x hx
theorem c194 {X : Cx} {d : Nat} {M : Mem} {b : Nat → Nat} {n m i h : Nat} {mt : Nat → Nat} (hX : StrOk X) (hT : Tok b n m) (hR : RS M b n 3 i) (h230 : M.1 101 0 230 = iN h) (hh : h ≤ 8) (hi : tk b n i = 10022) (hm : ∀ x, x < 64 → M.1 107 0 x = cvN (mt x) ∧ mt x ≤ 99) (hs : ∀ a c, a < 8 → c < 8 → mt (8 * a + c) = mt (8 * c + a)) : ∃ M', CC X (d + 11) 194 [vR 100 0] M (some (vI (okR0 (wy5 (tk b n) h (.inl (i + 1)))))) M' ∧ RT M' b n 3 (wy5 (tk b n) h (.inl (i + 1))) ∧ K3 RqP M M' ∧ ∀ j, wy5 (tk b n) h (.inl (i + 1)) = .inl j → ∀ x, x < 64 → M'.1 107 0 x = cvN (wup mt (vX (tk b n) h (.inl (i + 1))) (vX (tk b n) h (wy3 (tk b n) h (.inl (i + 1)))) (vN (tk b n) 1 99 (sX (tk b n) h (wy3 (tk b n) h (.inl (i + 1))))) x) := by
  have x230 : ix 230 = 230 := ix_l (by decide)
  have x100 : ix 100 = 100 := ix_l (by decide)
  have x101 : ix 101 = 101 := ix_l (by decide)
  have x102 : ix 102 = 102 := ix_l (by decide)
  have b230 : inb 230 2129 := inb_of (n := 230) (by decide) (by decide)
  have b100 : inb 100 144 := inb_of (n := 100) (by decide) (by decide)
  have b101 : inb 101 144 := inb_of (n := 101) (by decide) (by decide)
  have b102 : inb 102 144 := inb_of (n := 102) (by decide) (by decide)
  obtain ⟨M1, p1, p2, p3, p4⟩ := c189_x (X := X) (d := d) (q := 100) (c := h) (w := 10022) (r := 14) hX hT (by decide) hR (by decide) (fun v => rt_wk (by omega)) (by decide) (by omega)
  rw [show sE (tk b n) 10022 (.inl i) = .inl (i + 1) from if_pos hi] at p1 p2 p3
  have k1 : K3 RqP M M1 := k3_sub p4 Rk_q
  have va := vN_le (t := tk b n) (lo := if h = 0 then 1 else 0) (hi := h - 1) (r := .inl (i + 1))
  have va8 : vX (tk b n) h (.inl (i + 1)) < 8 := by unfold vX; omega
  unfold wy5 wy3 wy2
  match hs1 : sX (tk b n) h (.inl (i + 1)), p1, p2, p3 with
  | .inr (e, p), p1, p2, p3 =>
    refine ⟨M1, e194 (w194_0 ?_), p2, k1, fun j hj => by cases hj⟩
    rw [x230, h230]
    exact ⟨b230, _, _, p1, fun _ => ⟨isB0, rfl, rfl⟩, fun z => absurd rfl z⟩
  | .inl j1, p1, p2, p3 =>
    have v100 := p3 rfl
    obtain ⟨M2, q1, q2, q3⟩ := c177_s (X := X) (d := d + 1) (w := 10022) (r := 14) hX hT (by decide) (show RS M1 b n 3 j1 from p2) (by decide) (fun v => rt_wk (by omega))
    have k2 : K3 RqP M M2 := k3_trans k1 (k3_sub q3 (fun c a j z => z.1))
    match hs2 : sE (tk b n) 10022 (.inl j1), q1, q2 with
    | .inr (e, p), q1, q2 =>
      refine ⟨M2, e194 (w194_0 ?_), q2, k2, fun j hj => by cases hj⟩
      rw [x230, h230]
      exact ⟨b230, _, _, p1, fun z => absurd z n10, fun _ => ⟨_, _, q1, fun z => absurd rfl z, fun _ => ⟨isB0, rfl, rfl⟩⟩⟩
    | .inl j, q1, q2 =>
      have q2 : RS M2 b n 3 j := q2
      have w100 : M2.1 107 0 100 = iN (vX (tk b n) h (.inl (i + 1))) := by rw [q3 107 0 100 (fun z => z.2 rfl)]; exact v100
      have w230 : M2.1 101 0 230 = iN h := by rw [k2 101 0 230 (by simp [RqP])]; exact h230
      have wm : ∀ x, x < 64 → M2.1 107 0 x = cvN (mt x) := fun x hx => by rw [q3 107 0 x (fun z => z.2 rfl), p4 107 0 x (by simp only [RkP]; omega)]; exact (hm x hx).1
      by_cases hsame : tk b n j = vX (tk b n) h (.inl (i + 1))
      · simp only [if_pos hsame]
        have hlt : tk b n j < 10000 := by omega
        obtain ⟨M3, t1, t2, t3⟩ := c176 (X := X) (d := d + 9) (e := 2) q2
        refine ⟨M3, e194 (w194_0 ?_), t2, k3_trans k2 (k3_sub t3 b2_q), fun j hj => by cases hj⟩
        rw [x230, h230]
        refine ⟨b230, _, _, p1, fun z => absurd z n10, fun _ => ⟨_, _, q1, fun _ => ⟨fun z => absurd ((Iff.of_eq (r18_2 hT q2)).mpr hlt) z, fun _ => ⟨b100, fun z => absurd ?_ z, fun _ => ⟨_, _, t1, isB0, rfl, rfl⟩⟩⟩, fun z => absurd z n10⟩⟩
        rw [x100, w100, q2.2.2.2.2.2 hlt, hsame]
      · simp only [if_neg hsame]
        -- the second place, and the length
        obtain ⟨M3, t1, t2, t3, t4⟩ := c188_x (X := X) (d := d + 1) (q := 101) (c := h) hX hT (by decide) q2 (by decide) (by omega)
        have k3' : K3 RqP M M3 := k3_trans k2 (k3_sub t4 (fun c a j z => z.1))
        -- both ways into the tail
        have go : ∀ {M' : Mem} {x : Int32}, (∃ (r3 : Int32) (M3 : Mem), CC X (d + 10) 188 [vR 100 0, vI 101, vI 0, vI (iN h - 1)] M2 (some (vI r3)) M3 ∧ (r3 = 0 → isB 0 ∧ (some (vI 0) = some (vI x) ∧ M3 = M')) ∧ (¬ r3 = 0 → ∃ (r4 : Int32) (M4 : Mem), CC X (d + 10) 188 [vR 100 0, vI 102, vI 1, vI 99] M3 (some (vI r4)) M4 ∧ (¬ r4 = 0 → inb 100 144 ∧ inb 101 144 ∧ inb 102 144 ∧ ∃ (M5 : Mem), CC X (d + 10) 193 [vR 100 0, vI (M4.1 107 0 (ix 100)), vI (M4.1 107 0 (ix 101)), vI (M4.1 107 0 (ix 102))] M4 none M5 ∧ inb 101 144 ∧ inb 100 144 ∧ inb 102 144 ∧ ∃ (M6 : Mem), CC X (d + 10) 193 [vR 100 0, vI (M5.1 107 0 (ix 101)), vI (M5.1 107 0 (ix 100)), vI (M5.1 107 0 (ix 102))] M5 none M6 ∧ isB 1 ∧ (some (vI 1) = some (vI x) ∧ M6 = M')) ∧ (r4 = 0 → isB 0 ∧ (some (vI 0) = some (vI x) ∧ M4 = M')))) → CC X (d + 11) 194 [vR 100 0] M (some (vI x)) M' := by
          intro M' x hgo
          refine e194 (w194_0 ?_)
          rw [x230, h230]
          refine ⟨b230, _, _, p1, fun z => absurd z n10, fun _ => ⟨_, _, q1, fun _ => ⟨fun _ => ⟨b230, ?_⟩, fun z => ⟨b100, fun _ => ⟨b230, ?_⟩, fun z2 => ?_⟩⟩, fun z => absurd z n10⟩⟩
          · rw [w230]
            exact hgo
          · rw [w230]
            exact hgo
          · have hlt : tk b n j < 10000 := (Iff.of_eq (r18_2 hT q2)).mp z
            rw [x100, w100, q2.2.2.2.2.2 hlt] at z2
            exact absurd ((iN_inj (by omega) (by omega)).mp z2) hsame
        match hs3 : sX (tk b n) h (.inl j), t1, t2, t3 with
        | .inr (e, p), t1, t2, t3 => exact ⟨M3, go ⟨_, _, t1, fun _ => ⟨isB0, rfl, rfl⟩, fun z => absurd rfl z⟩, t2, k3', fun j hj => by cases hj⟩
        | .inl j3, t1, t2, t3 =>
          obtain ⟨s1, s2, i3, s3, s4, s5⟩ := sX_pos hs3
          injection s3 with s3
          subst s3
          have v101 := t3 rfl
          obtain ⟨M4, u1, u2, u3, u4⟩ := c188_s (X := X) (d := d + 1) (q := 102) (lo := 1) (hi := 99) hX hT (by decide) (show RS M3 b n 3 j3 from t2) (by decide) (by decide) (by decide)
          have k4 : K3 RqP M M4 := k3_trans k3' (k3_sub u4 (fun c a j z => z.1))
          match hs5 : sN (tk b n) 1 99 (.inl j3), u1, u2, u3 with
          | .inr (e, p), u1, u2, u3 => exact ⟨M4, go ⟨_, _, t1, fun z => absurd z n10, fun _ => ⟨_, _, u1, fun z => absurd rfl z, fun _ => ⟨isB0, rfl, rfl⟩⟩⟩, u2, k4, fun j hj => by cases hj⟩
          | .inl j5, u1, u2, u3 =>
            have u2 : RS M4 b n 3 j5 := u2
            have y102 : M4.1 107 0 102 = iN (vN (tk b n) 1 99 (.inl j3)) := u3 rfl
            have y101 : M4.1 107 0 101 = iN (vX (tk b n) h (.inl j)) := by rw [u4 107 0 101 (by omega)]; exact v101
            have y100 : M4.1 107 0 100 = iN (vX (tk b n) h (.inl (i + 1))) := by rw [u4 107 0 100 (by omega), t4 107 0 100 (by omega)]; exact w100
            have ym : ∀ x, x < 64 → M4.1 107 0 x = cvN (mt x) := fun x hx => by rw [u4 107 0 x (by omega), t4 107 0 x (by omega)]; exact wm x hx
            have hl99 := vN_le (t := tk b n) (lo := 1) (hi := 99) (r := .inl j3)
            have hl1 : 1 ≤ vN (tk b n) 1 99 (.inl j3) := by
              unfold sN at hs5
              unfold vN
              by_cases hc : tk b n j3 < 10000 ∧ 1 ≤ tk b n j3 ∧ tk b n j3 ≤ 99
              · simp only [if_pos hc]
                exact hc.2.1
              · simp only [if_neg hc] at hs5
                cases hs5
            -- names
            have hb8 : vX (tk b n) h (.inl j) < 8 := by omega
            have hab : vX (tk b n) h (.inl (i + 1)) ≠ vX (tk b n) h (.inl j) := by rw [s4]; exact fun z => hsame z.symm
            generalize hA : vX (tk b n) h (.inl (i + 1)) = A at *
            generalize hB : vX (tk b n) h (.inl j) = B2 at *
            generalize hLl : vN (tk b n) 1 99 (.inl j3) = l at *
            have hAB := hs A B2 va8 hb8
            have hcm := (hm (8 * A + B2) (by omega)).2
            have d1 := c193 (X := X) (d := d + 8) (M := M4) (a := A) (b := B2) (l := l) (c := mt (8 * A + B2)) va8 hb8 hl1 hl99 hcm (ym _ (by omega))
            have d2 := c193 (X := X) (d := d + 8) (M := st M4 107 0 (8 * A + B2) (cvN (nw (mt (8 * A + B2)) l))) (a := B2) (b := A) (l := l) (c := mt (8 * A + B2)) hb8 va8 hl1 hl99 hcm (by rw [st_ne3 (by omega), ym _ (by omega), hAB])
            refine ⟨st (st M4 107 0 (8 * A + B2) (cvN (nw (mt (8 * A + B2)) l))) 107 0 (8 * B2 + A) (cvN (nw (mt (8 * A + B2)) l)), go ⟨_, _, t1, fun z => absurd z n10, fun _ => ⟨_, _, u1, fun _ => ⟨b100, b101, b102, st M4 107 0 (8 * A + B2) (cvN (nw (mt (8 * A + B2)) l)), ?_, b101, b100, b102, st (st M4 107 0 (8 * A + B2) (cvN (nw (mt (8 * A + B2)) l))) 107 0 (8 * B2 + A) (cvN (nw (mt (8 * A + B2)) l)), ?_, isB1, rfl, rfl⟩, fun z => absurd z n10⟩⟩, (u2.st107).st107, k3_trans k4 (k3_trans (k3_st (by simp [RqP])) (k3_st (by simp [RqP]))), fun j' hj' => wup_cv hAB.symm rfl ym⟩
            · rw [x100, x101, x102, y100, y101, y102]
              exact d1
            · rw [x100, x101, x102, st_ne3 (by omega), st_ne3 (by omega), st_ne3 (by omega), y100, y101, y102]
              exact d2
