/-! one test, every, any -/
def TO (o : Nat) (s : List Nat) : Prop := oc s = o ∧ s.length + 3 * (8 - o) ≤ 29
def TE (o : Nat) (s : List Nat) : Prop := oc s = o ∧ s.length + 3 * (8 - o) ≤ 28 ∧ ∀ x s', s = x :: s' → (x = 10014 ∨ x = 20040)
def TA (o : Nat) (s : List Nat) : Prop := oc s = o ∧ s.length + 3 * (8 - o) ≤ 27 ∧ ∀ x s', s = x :: s' → x = 20040
abbrev One (X : Cx) (b : Nat → Nat) (n m i o : Nat) : Prop := Lev X b n m 185 12 3 TO (fun _ => True) i o
abbrev Evy (X : Cx) (b : Nat → Nat) (n m i o : Nat) : Prop := Lev X b n m 184 13 4 TE (fun j => True ∧ ¬ tk b n j = 10015) i o
abbrev Any (X : Cx) (b : Nat → Nat) (n m i o : Nat) : Prop := Lev X b n m 183 14 5 TA (fun j => (True ∧ ¬ tk b n j = 10015) ∧ ¬ tk b n j = 10014) i o
theorem evy_of {X : Cx} {b : Nat → Nat} {n m k : Nat} (hX : StrOk X) (hT : Tok b n m) (h : ∀ i, m - i ≤ k → i ≤ m → ∀ o, o ≤ 8 → One X b n m i o) : ∀ i, m - i ≤ k → i ≤ m → ∀ o, o ≤ 8 → Evy X b n m i o :=
  level hX hT (w := 10015) (cd := 31) (rtn := 5) (mS := 185) (mE := 184) (by decide) (Or.inl ⟨rfl, rfl, rfl⟩)
    (fun o s h => ⟨h.1, by have := h.2.1; omega⟩)
    (fun o s h => ⟨by show oc1 10015 + oc s = o; rw [show oc1 10015 = 0 from rfl]; have := h.1; omega, by have := h.2.1; simp only [List.length_cons]; omega⟩)
    (fun o s h => ⟨by have := h.2.1; omega, fun x s' e => by have := h.2.2 x s' e; omega⟩) (fun _ _ => Or.inl rfl)
    (fun h => w184_9 h) (fun h => e184 (w184_0 h)) h
theorem any_of {X : Cx} {b : Nat → Nat} {n m k : Nat} (hX : StrOk X) (hT : Tok b n m) (h : ∀ i, m - i ≤ k → i ≤ m → ∀ o, o ≤ 8 → Evy X b n m i o) : ∀ i, m - i ≤ k → i ≤ m → ∀ o, o ≤ 8 → Any X b n m i o :=
  level hX hT (w := 10014) (cd := 32) (rtn := 4) (mS := 184) (mE := 183) (by decide) (Or.inr ⟨rfl, rfl, rfl⟩)
    (fun o s h => ⟨h.1, by have := h.2.1; omega, fun x s' e => Or.inr (h.2.2 x s' e)⟩)
    (fun o s h => ⟨by show oc1 10014 + oc s = o; rw [show oc1 10014 = 0 from rfl]; have := h.1; omega, by have := h.2.1; simp only [List.length_cons]; omega, fun x s' e => by injection e with e1 e2; omega⟩)
    (fun o s h => ⟨by have := h.2.1; omega, fun x s' e => by have := h.2.2 x s' e; omega⟩) (fun j hj => Or.inr ⟨rfl, hj.2⟩)
    (fun h => w183_9 h) (fun h => e183 (w183_0 h)) h
theorem RL.k24 {M : Mem} {b : Nat → Nat} {n m i : Nat} {cs : Cds} {x : Int32} (h : RL M b n m i cs) : RL (st M 100 0 24 x) b n m i cs :=
  have k : K3 (fun c a j => c = 100 ∧ a = 0 ∧ j = 24) M (st M 100 0 24 x) := k3_st ⟨rfl, rfl, rfl⟩
  ⟨h.1.k k (fun j hj => by omega) (fun j => by omega), h.2.1, h.2.2.1.k k (by omega) (fun j => by omega), h.2.2.2⟩
theorem c179 {X : Cx} {d : Nat} {M : Mem} {b : Nat → Nat} {n m i o : Nat} {cs : Cds} (hX : StrOk X) (hT : Tok b n m) (h : RL M b n m i cs) (hi : i < m) (h24 : M.1 100 0 24 = iN o) (ho : o < 8) : ∃ M', CC X (d + 9) 179 [vR 100 0] M (some (vI 1)) M' ∧ RL M' b n m (i + 1) cs ∧ M'.1 100 0 24 = iN (o + 1) ∧ K3 RcP M M' := by
  obtain ⟨M1, p1, p2, p3⟩ := (h.k24 (x := iN (o + 1))).next (X := X) (d := d) hX hT hi
  refine ⟨M1, e179 (w179_0 ⟨fun _ M2 hM2 => ?_, fun z => absurd z ?_⟩), p2, by rw [p3 100 0 24 (by simp [NxP]), st_at], k3_trans (k3_st (by simp [RcP])) (k3_sub p3 Nx_c)⟩
  · rw [h24, iN_step] at hM2
    subst hM2
    exact ⟨_, p1, isB1, rfl, rfl⟩
  · rw [h24, show (iN o = 8) = False from neq_ (b := 8) (by omega) (by decide) (by omega)]
    exact id
theorem c179_f {X : Cx} {d : Nat} {M : Mem} {b : Nat → Nat} {n m i : Nat} {cs : Cds} (h : RL M b n m i cs) (h24 : M.1 100 0 24 = iN 8) : ∃ M', CC X (d + 2) 179 [vR 100 0] M (some (vI 0)) M' ∧ Bad M' b n 3 i ∧ K3 RcP M M' := by
  obtain ⟨M1, p1, p2, p3⟩ := c176 (X := X) (d := d) (e := 3) h.1
  exact ⟨M1, e179 (w179_0 ⟨fun z => absurd h24 z, fun _ => ⟨_, _, p1, isB0, rfl, rfl⟩⟩), p2, k3_sub p3 (fun c a j z => by simp only [RcP]; omega)⟩
theorem c177 {X : Cx} {d : Nat} {M : Mem} {b : Nat → Nat} {n m i : Nat} {cs : Cds} {x : Int32} (hX : StrOk X) (hT : Tok b n m) (h : RL M b n m i cs) (hi : i < m) (hx : M.1 100 0 18 = x) : ∃ M', CC X (d + 9) 177 [vR 100 0, vI x] M (some (vI 1)) M' ∧ RL M' b n m (i + 1) cs ∧ K3 NxP M M' := by
  obtain ⟨M1, p1, p2, p3⟩ := h.next (X := X) (d := d) hX hT hi
  exact ⟨M1, e177 (w177_0 ⟨fun _ => ⟨_, p1, isB1, rfl, rfl⟩, fun z => absurd hx z⟩), p2, p3⟩
theorem c177_f {X : Cx} {d : Nat} {M : Mem} {b : Nat → Nat} {n k i : Nat} {x : Int32} (h : RS M b n k i) (hx : ¬ M.1 100 0 18 = x) : ∃ M', CC X (d + 2) 177 [vR 100 0, vI x] M (some (vI 0)) M' ∧ Bad M' b n 1 i ∧ K3 (fun c a j => c = 100 ∧ a = 0 ∧ (j = 21 ∨ j = 22)) M M' := by
  obtain ⟨M1, p1, p2, p3⟩ := c176 (X := X) (d := d) (e := 1) h
  exact ⟨M1, e177 (w177_0 ⟨fun z => absurd z hx, fun _ => ⟨_, _, p1, isB0, rfl, rfl⟩⟩), p2, p3⟩
theorem b2_c : ∀ c a j, (c = 100 ∧ a = 0 ∧ (j = 21 ∨ j = 22)) → RcP c a j := fun c a j h => by simp only [RcP]; omega
theorem one_step {X : Cx} {b : Nat → Nat} {n m : Nat} (hX : StrOk X) (hT : Tok b n m) (k : Nat) (ih1 : ∀ i, m - i < k → i ≤ m → ∀ o, o ≤ 8 → One X b n m i o) (ih3 : ∀ i, m - i < k → i ≤ m → ∀ o, o ≤ 8 → Any X b n m i o) : ∀ i, m - i ≤ k → i ≤ m → ∀ o, o ≤ 8 → One X b n m i o := by
  have hm := hT.1
  have hn := hT.2.1
  intro i hk him o ho
  by_cases hnot : tk b n i = 10016
  · have hi : i < m := tk_in hT (by omega)
    have f6 : ∀ {M : Mem} {cs : Cds}, RL M b n m i cs → M.1 100 0 18 = 6 := fun hR => (Iff.of_eq (rt_w18 (r := 6) hT hR.1.2.2.2.2.1 (by omega))).mpr hnot
    by_cases ho8 : o = 8
    · subst ho8
      refine ⟨.inr (3, i), fun s cs hs => EV_deep hT (Or.inl hnot) hs.1, fun D hD M cs hR h24 hl => ?_, by show 1 ≤ 3 ∧ 3 ≤ 3; omega, trivial⟩
      obtain ⟨d, rfl⟩ : ∃ d, D = d + 3 := ⟨D - 3, by omega⟩
      obtain ⟨M1, p1, p2, p3⟩ := c179_f (X := X) (d := d) hR h24
      exact ⟨M1, e185 (w185_0 ⟨fun z => absurd (f6 hR) z, fun _ => ⟨_, _, p1, fun _ => ⟨isB0, rfl, rfl⟩, fun z => absurd rfl z⟩⟩), p3, p2⟩
    · have ho7 : o < 8 := by omega
      obtain ⟨r1, u1, u2, u3, u4⟩ := ih1 (i + 1) (by omega) (by omega) (o + 1) (by omega)
      have tt : ∀ s, TO o s → TO (o + 1) (10016 :: s) := fun s hs => ⟨by show oc1 10016 + oc s = o + 1; rw [show oc1 10016 = 1 from rfl]; have := hs.1; omega, by have := hs.2; simp only [List.length_cons]; omega⟩
      have cls : ∀ s cs F, TO o s → EV X b n m (i + 1) (10016 :: s) cs F → EV X b n m i s cs F := fun s cs F hs h => EV_push hT (Or.inl hnot) (by have := hs.2; omega) (by have := hs.1; omega) (by rw [hnot]; exact h)
      match r1, u1, u2, u3, u4 with
      | .inr (e, p), u1, u2, u3, u4 =>
        refine ⟨.inr (e, p), fun s cs hs => cls s cs _ hs (u1 _ cs (tt s hs)), fun D hD M cs hR h24 hl => ?_, u3, trivial⟩
        obtain ⟨d, rfl⟩ : ∃ d, D = d + 10 := ⟨D - 10, by omega⟩
        obtain ⟨M1, p1, p2, p24, p3⟩ := c179 (X := X) (d := d) hX hT hR hi h24 ho7
        obtain ⟨M2, q1, q2, q3⟩ := u2 (d + 9) (by omega) M1 cs p2 p24 (by omega)
        exact ⟨M2, e185 (w185_0 ⟨fun z => absurd (f6 hR) z, fun _ => ⟨_, _, p1, fun z => absurd z n10, fun _ => ⟨_, _, q1, fun z => absurd rfl z, fun _ => ⟨isB0, rfl, rfl⟩⟩⟩⟩), k3_trans p3 q2, q3⟩
      | .inl (j, nw), u1, u2, u3, u4 =>
        obtain ⟨g1, g2, g3, g4, g5⟩ := u3
        refine ⟨.inl (j, nw ++ [(30, 0)]), fun s cs F hs h => cls s cs F hs (u1 _ cs F (tt s hs) (CV_pop (Or.inl rfl) ?_)), fun D hD M cs hR h24 hl => ?_, ⟨by omega, g2, ?_, ?_, fun t ht => Ty_app' (g5 t (by omega)) ⟨_, Or.inr (Or.inr (Or.inr (Or.inl ⟨rfl, rfl, _, rfl, rfl⟩))), rfl⟩⟩, trivial⟩
        · rw [← List.append_assoc] at h
          exact h
        · obtain ⟨d, rfl⟩ : ∃ d, D = d + 10 := ⟨D - 10, by omega⟩
          obtain ⟨M1, p1, p2, p24, p3⟩ := c179 (X := X) (d := d) hX hT hR hi h24 ho7
          obtain ⟨M2, q1, q2, q3⟩ := u2 (d + 9) (by omega) M1 cs p2 p24 (by omega)
          have q3 : RL M2 b n m j (cs ++ nw) ∧ M2.1 100 0 24 = iN (o + 1) := q3
          obtain ⟨M3, s1, s2, s3⟩ := c178 (X := X) (d := d + 8) (s := 30) (v := 0) (x := 30) (y := 0) (q3.1.k24 (x := iN o)) (by rw [List.length_append]; omega) rfl (fun _ => rfl)
          refine ⟨M3, e185 (w185_0 ⟨fun z => absurd (f6 hR) z, fun _ => ⟨_, _, p1, fun z => absurd z n10, fun _ => ⟨_, _, q1, fun _ M24 hM24 => ?_, fun z => absurd z n10⟩⟩⟩), k3_trans p3 (k3_trans q2 (k3_trans (k3_st (by simp [RcP])) (k3_sub s3 (fun c a j z => by simp only [RcP]; omega)))), ?_⟩
          · rw [q3.2, iN_dec (by omega), show o + 1 - 1 = o by omega] at hM24
            subst hM24
            exact ⟨_, s1, isB1, rfl, rfl⟩
          · show RL M3 b n m j (cs ++ (nw ++ [(30, 0)])) ∧ M3.1 100 0 24 = iN o
            rw [← List.append_assoc]
            exact ⟨s2, by rw [s3 100 0 24 (by simp), st_at]⟩
        · rw [tr_app, List.length_append, tr_s (by decide), show ([tok 30 0] : List Int32).length = 1 from rfl]
          omega
        · rw [List.length_append, show ([(30, 0)] : Cds).length = 1 from rfl]
          omega
  · by_cases hop : tk b n i = 20040
    · have hi : i < m := tk_in hT (by omega)
      have f6 : ∀ {M : Mem} {cs : Cds}, RL M b n m i cs → ¬ M.1 100 0 18 = 6 := fun hR z => hnot ((Iff.of_eq (rt_w18 (r := 6) hT hR.1.2.2.2.2.1 (by omega))).mp z)
      have f140 : ∀ {M : Mem} {cs : Cds}, RL M b n m i cs → M.1 100 0 18 = 140 := fun hR => r18_eq (c := 40) hR.1.2.2.2.2.1 (by decide) (by decide) (by decide) hop
      by_cases ho8 : o = 8
      · subst ho8
        refine ⟨.inr (3, i), fun s cs hs => EV_deep hT (Or.inr hop) hs.1, fun D hD M cs hR h24 hl => ?_, by show 1 ≤ 3 ∧ 3 ≤ 3; omega, trivial⟩
        obtain ⟨d, rfl⟩ : ∃ d, D = d + 3 := ⟨D - 3, by omega⟩
        obtain ⟨M1, p1, p2, p3⟩ := c179_f (X := X) (d := d) hR h24
        exact ⟨M1, e185 (w185_0 ⟨fun _ => ⟨fun z => absurd (f140 hR) z, fun _ => ⟨_, _, p1, fun _ => ⟨isB0, rfl, rfl⟩, fun z => absurd rfl z⟩⟩, fun z => absurd z (f6 hR)⟩), p3, p2⟩
      · have ho7 : o < 8 := by omega
        obtain ⟨r1, u1, u2, u3, u4⟩ := ih3 (i + 1) (by omega) (by omega) (o + 1) (by omega)
        have tt : ∀ s, TO o s → TA (o + 1) (20040 :: s) := fun s hs => ⟨by show oc1 20040 + oc s = o + 1; rw [show oc1 20040 = 1 from rfl]; have := hs.1; omega, by have := hs.2; simp only [List.length_cons]; omega, fun x s' e => by injection e with e1 e2; exact e1.symm⟩
        have cls : ∀ s cs F, TO o s → EV X b n m (i + 1) (20040 :: s) cs F → EV X b n m i s cs F := fun s cs F hs h => EV_push hT (Or.inr hop) (by have := hs.2; omega) (by have := hs.1; omega) (by rw [hop]; exact h)
        match r1, u1, u2, u3, u4 with
        | .inr (e, p), u1, u2, u3, u4 =>
          refine ⟨.inr (e, p), fun s cs hs => cls s cs _ hs (u1 _ cs (tt s hs)), fun D hD M cs hR h24 hl => ?_, u3, trivial⟩
          obtain ⟨d, rfl⟩ : ∃ d, D = d + 10 := ⟨D - 10, by omega⟩
          obtain ⟨M1, p1, p2, p24, p3⟩ := c179 (X := X) (d := d) hX hT hR hi h24 ho7
          obtain ⟨M2, q1, q2, q3⟩ := u2 (d + 9) (by omega) M1 cs p2 p24 (by omega)
          exact ⟨M2, e185 (w185_0 ⟨fun _ => ⟨fun z => absurd (f140 hR) z, fun _ => ⟨_, _, p1, fun z => absurd z n10, fun _ => ⟨_, _, q1, fun _ => ⟨isB0, rfl, rfl⟩, fun z => absurd rfl z⟩⟩⟩, fun z => absurd z (f6 hR)⟩), k3_trans p3 q2, q3⟩
        | .inl (j, nw), u1, u2, u3, u4 =>
          obtain ⟨g1, g2, g3, g4, g5⟩ := u3
          by_cases hcl : tk b n j = 20041
          · have hj : j < m := tk_in hT (by omega)
            refine ⟨.inl (j + 1, nw), fun s cs F hs h => cls s cs F hs (u1 _ cs F (tt s hs) (CV_close hcl h)), fun D hD M cs hR h24 hl => ?_, ⟨by omega, by omega, by omega, by omega, fun t ht => g5 t (by omega)⟩, trivial⟩
            obtain ⟨d, rfl⟩ : ∃ d, D = d + 10 := ⟨D - 10, by omega⟩
            obtain ⟨M1, p1, p2, p24, p3⟩ := c179 (X := X) (d := d) hX hT hR hi h24 ho7
            obtain ⟨M2, q1, q2, q3⟩ := u2 (d + 9) (by omega) M1 cs p2 p24 (by omega)
            have q3 : RL M2 b n m j (cs ++ nw) ∧ M2.1 100 0 24 = iN (o + 1) := q3
            have a1 : M2.1 100 0 18 = 141 := r18_eq (c := 41) q3.1.1.2.2.2.2.1 (by decide) (by decide) (by decide) hcl
            obtain ⟨M3, s1, s2, s3⟩ := c177 (X := X) (d := d) hX hT q3.1 hj a1
            have v24 : M3.1 100 0 24 = iN (o + 1) := by rw [s3 100 0 24 (by simp [NxP])]; exact q3.2
            refine ⟨st M3 100 0 24 (iN o), e185 (w185_0 ⟨fun _ => ⟨fun z => absurd (f140 hR) z, fun _ => ⟨_, _, p1, fun z => absurd z n10, fun _ => ⟨_, _, q1, fun z => absurd z n10, fun _ => ⟨_, _, s1, fun _ M21 hM21 => ⟨isB1, rfl, ?_⟩, fun z => absurd z n10⟩⟩⟩⟩, fun z => absurd z (f6 hR)⟩), k3_trans p3 (k3_trans q2 (k3_trans (k3_sub s3 Nx_c) (k3_st (by simp [RcP])))), ⟨s2.k24, st_at⟩⟩
            rw [v24, iN_dec (by omega), show o + 1 - 1 = o by omega] at hM21
            exact hM21
          · refine ⟨.inr (1, j), fun s cs hs => cls s cs _ hs (u1 _ cs _ (tt s hs) (CV_fail hcl (by unfold isAO; have := u4.1.2; have := u4.2; omega))), fun D hD M cs hR h24 hl => ?_, by show 1 ≤ 1 ∧ 1 ≤ 3; omega, trivial⟩
            obtain ⟨d, rfl⟩ : ∃ d, D = d + 10 := ⟨D - 10, by omega⟩
            obtain ⟨M1, p1, p2, p24, p3⟩ := c179 (X := X) (d := d) hX hT hR hi h24 ho7
            obtain ⟨M2, q1, q2, q3⟩ := u2 (d + 9) (by omega) M1 cs p2 p24 (by omega)
            have q3 : RL M2 b n m j (cs ++ nw) ∧ M2.1 100 0 24 = iN (o + 1) := q3
            have a1 : ¬ M2.1 100 0 18 = 141 := r18_ne (c := 41) hT q3.1.1.2.2.2.2.1 (by decide) (by decide) (by decide) hcl
            obtain ⟨M3, s1, s2, s3⟩ := c177_f (X := X) (d := d + 7) q3.1.1 a1
            exact ⟨M3, e185 (w185_0 ⟨fun _ => ⟨fun z => absurd (f140 hR) z, fun _ => ⟨_, _, p1, fun z => absurd z n10, fun _ => ⟨_, _, q1, fun z => absurd z n10, fun _ => ⟨_, _, s1, fun z => absurd rfl z, fun _ => ⟨isB0, rfl, rfl⟩⟩⟩⟩⟩, fun z => absurd z (f6 hR)⟩), k3_trans p3 (k3_trans q2 (k3_sub s3 b2_c)), s2⟩
    · obtain ⟨r, u1, u2, u3⟩ := comp_sim hX hT i him hnot hop
      refine ⟨r, EV_comp hT hnot hop u1 u3, fun D hD M cs hR h24 hl => ?_, ?_, ?_⟩
      · obtain ⟨d, rfl⟩ : ∃ d, D = d + 12 := ⟨D - 12, by omega⟩
        obtain ⟨M1, p1, p2, p3⟩ := u2 d M cs hR hl
        refine ⟨M1, p1, k3_sub p2 Rf_c, ?_⟩
        match r, p3 with
        | .inr _, p3 => exact p3
        | .inl (j, nw), p3 => exact ⟨p3, by rw [p2 100 0 24 (by simp [RfP])]; exact h24⟩
      · match r, u3 with
        | .inr _, u3 => exact u3
        | .inl (j, nw), u3 => exact ⟨u3.1, u3.2.1, u3.2.2.1, u3.2.2.2.1, fun t ht => u3.2.2.2.2 t (by omega)⟩
      · match r with
        | .inr _ => trivial
        | .inl (j, nw) => trivial
theorem any_all {X : Cx} {b : Nat → Nat} {n m : Nat} (hX : StrOk X) (hT : Tok b n m) : ∀ k, (∀ i, m - i ≤ k → i ≤ m → ∀ o, o ≤ 8 → One X b n m i o) ∧ ∀ i, m - i ≤ k → i ≤ m → ∀ o, o ≤ 8 → Any X b n m i o := by
  intro k
  induction k with
  | zero =>
    have h1 := one_step hX hT 0 (fun i h => absurd h (Nat.not_lt_zero _)) (fun i h => absurd h (Nat.not_lt_zero _))
    exact ⟨h1, any_of hX hT (evy_of hX hT h1)⟩
  | succ k ih =>
    have h1 := one_step hX hT (k + 1) (fun i h => ih.1 i (by omega)) (fun i h => ih.2 i (by omega))
    exact ⟨h1, any_of hX hT (evy_of hX hT h1)⟩
/-- a condition, read by both -/
theorem cond_sim {X : Cx} {b : Nat → Nat} {n m : Nat} (hX : StrOk X) (hT : Tok b n m) (i : Nat) (hi : i ≤ m) (hi1 : 1 ≤ i) : ∃ r : Rs, (∀ (d : Nat) (M : Mem) (cs : Cds), CL M b n m i cs → ∃ M', CC X (d + 5) 45 [vR 3 0] M none M' ∧ K3 CdP M M' ∧ rsC (fun j nw => CL M' b n m j (cs ++ nw)) (fun e p => DD M' b n m e p) r) ∧ RfO X b n m 14 183 i 0 r ∧ GdB m i 21 r := by
  obtain ⟨r, u1, u2, u3, u4⟩ := (any_all hX hT (m - i)).2 i (Nat.le_refl _) hi 0 (by decide)
  refine ⟨r, fun d M cs hC => ?_, u2, u3⟩
  have k1 : K3 (fun c a j => c = 3 ∧ a = 0 ∧ (j = 11 ∨ j = 12)) M (st (st M 3 0 11 0) 3 0 12 0) := k3_trans (k3_st (by omega)) (k3_st (by omega))
  have hE : ES (st (st M 3 0 11 0) 3 0 12 0) b n m i cs [] := ⟨hC.k k1 (by simp) (by simp) (by simp) (by simp) (by simp) (by simp) (by simp) (by simp) (w := 0) (by decide) (by rw [st_ne3 (by omega), st_at]; rfl), ⟨by rw [st_ne3 (by omega), st_at]; rfl, by rw [st_at]; rfl, trivial⟩, by have := hC.2.2.2; simpa using this, trivial, by decide, by decide⟩
  have hTA : TA 0 [] := ⟨rfl, by decide, fun x s' e => by cases e⟩
  have go : ∀ F, EV X b n m i [] cs F → ∃ M', CC X (d + 5) 45 [vR 3 0] M none M' ∧ K3 CdP M M' ∧ rsC (fun j l => CL M' b n m j l) (fun e p => DD M' b n m e p) F := by
    intro F h
    obtain ⟨M', f1, f2, f3⟩ := h d 0 _ (by omega) hE
    refine ⟨M', e45 (w45_0 (fun M1 hM1 M2 hM2 => ?_)), k3_trans (k3_sub k1 (fun c a j z => by simp only [CdP]; omega)) f1, f2⟩
    subst hM1
    subst hM2
    exact f3 _ ⟨rfl, rfl⟩
  match r, u1, u4 with
  | .inr z, u1, u4 => exact go _ (u1 [] cs hTA)
  | .inl (j, nw), u1, u4 => exact go _ (u1 [] cs _ hTA (CV_end (by unfold isAO; have := u4.1.2; have := u4.2; omega)))
theorem c45_d {X : Cx} {d : Nat} {M : Mem} {b : Nat → Nat} {n m e p : Nat} (h : DD M b n m e p) : ∃ M', CC X (d + 1) 45 [vR 3 0] M none M' ∧ K3 CdP M M' ∧ DD M' b n m e p := by
  have k1 : K3 (fun c a j => c = 3 ∧ a = 0 ∧ (j = 11 ∨ j = 12)) M (st (st M 3 0 11 0) 3 0 12 0) := k3_trans (k3_st (by omega)) (k3_st (by omega))
  have h2 := h.k k1 (by simp) (by simp) (by simp) (by simp) (by simp) (by simp) (by simp) (w := 0) (by decide) (by rw [st_ne3 (by omega), st_at]; rfl)
  have ne : ¬ (st (st M 3 0 11 0) 3 0 12 0).1 3 0 13 = 0 := by rw [h2.ne]; exact id
  refine ⟨_, e45 (w45_0 (fun M1 hM1 M2 hM2 => ?_)), k3_sub k1 (fun c a j z => by simp only [CdP]; omega), h2⟩
  subst hM1
  subst hM2
  exact w45_14 ⟨fun _ => ⟨rfl, rfl⟩, fun _ => ⟨fun _ => ⟨rfl, rfl⟩, fun _ => ⟨fun _ => ⟨rfl, rfl⟩, fun z => absurd z ne⟩⟩⟩
