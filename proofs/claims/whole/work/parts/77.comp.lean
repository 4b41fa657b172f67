/-! comparisons -/
def CmG (X : Cx) (d : Nat) (x : Int32) (M9 : Mem) (K : Mem → Prop) : Prop := ∃ (M10 : Mem), CC X d 36 [vR 3 0] M9 none M10 ∧ ∃ (M11 : Mem), CC X d 42 [vR 3 0] M10 none M11 ∧ ∃ (M12 : Mem), CC X d 4 [vR 40 1, vI x] M11 none M12 ∧ K M12
def CmT (X : Cx) (d : Nat) (M : Mem) (K : Mem → Prop) : Prop := ∃ (M8 : Mem), CC X d 42 [vR 3 0] M none M8 ∧ ∃ (r3 : Int32) (M9 : Mem), CC X d 34 [vR 3 0, vI 20060] M8 (some (vI r3)) M9 ∧ (¬ r3 = 0 → CmG X d (M8.1 3 0 10) M9 K) ∧ (r3 = 0 → ∃ (r5 : Int32) (M14 : Mem), CC X d 34 [vR 3 0, vI 20061] M9 (some (vI r5)) M14 ∧ (¬ r5 = 0 → CmG X d (M8.1 3 0 10) M14 K) ∧ (r5 = 0 → ∃ (r7 : Int32) (M19 : Mem), CC X d 34 [vR 3 0, vI 20062] M14 (some (vI r7)) M19 ∧ (¬ r7 = 0 → CmG X d (M8.1 3 0 10) M19 K) ∧ (r7 = 0 → ∃ (M24 : Mem), CC X d 37 [vR 3 0, vI 1] M19 none M24 ∧ CmG X d (M8.1 3 0 10) M24 K)))
theorem CmG_d {X : Cx} {d : Nat} {M : Mem} {b : Nat → Nat} {n m e p : Nat} (hT : Tok b n m) (h : DD M b n m e p) (x : Int32) : ∃ M', DD M' b n m e p ∧ K3 SmP M M' ∧ ∀ K : Mem → Prop, K M' → CmG X (d + 4) x M K := by
  obtain ⟨M1, p1, p2, p3⟩ := c36_d (X := X) (d := d + 3) hT h
  obtain ⟨M2, q1, q2, q3⟩ := c4_s (X := X) (d := d + 3) (x := x) p2
  exact ⟨M2, q2, k3_trans (k3_sub p3 Sp_s) q3, fun K hK => ⟨_, p1, _, c42_d p2, _, q1, hK⟩⟩
def GdB (m i L : Nat) (r : Rs) : Prop := rsC (fun j nw => i < j ∧ j ≤ m ∧ (tr nw).length ≤ j - i ∧ nw.length ≤ j - i ∧ ∀ t : List Bool, t.length + L ≤ 31 → Ty nw t (true :: t)) (fun e _ => 1 ≤ e ∧ e ≤ 3) r
theorem comp_sim {X : Cx} {b : Nat → Nat} {n m : Nat} (hX : StrOk X) (hT : Tok b n m) (i : Nat) (hi : i ≤ m) (n1 : ¬ tk b n i = 10016) (n2 : ¬ tk b n i = 20040) : ∃ r : Rs, (∀ (d : Nat) (M : Mem) (cs : Cds), CL M b n m i cs → ∃ M', K3 SmP M M' ∧ rsC (fun j nw => CL M' b n m j (cs ++ nw)) (fun e p => DD M' b n m e p) r ∧ ∀ K : Mem → Prop, K M' → CmT X (d + 4) M K) ∧ (∀ d, RfR X b n m (d + 12) 185 i r) ∧ GdB m i 3 r := by
  have hm := hT.1
  have hn := hT.2.1
  have hrb := rt_b (k := 0) (tk_b hT i)
  have f6 : ∀ {M : Mem} {cs : Cds}, RL M b n m i cs → ¬ M.1 100 0 18 = 6 := by
    intro M cs hR z
    rw [hR.1.2.2.2.2.1] at z
    exact n1 ((Iff.of_eq (rt_w0 (w := 10016) (r := 6) (by omega))).mp ((iN_inj (b := 6) (by omega) (by decide)).mp z))
  have f140 : ∀ {M : Mem} {cs : Cds}, RL M b n m i cs → ¬ M.1 100 0 18 = 140 := fun hR => r18_ne (c := 40) hT hR.1.2.2.2.2.1 (by decide) (by decide) (by decide) n2
  obtain ⟨r1, u1, u2, u3⟩ := sum_sim hX hT i hi
  match r1, u1, u2, u3 with
  | .inr (e, p), u1, u2, u3 =>
    refine ⟨.inr (e, p), fun d M cs hC => ?_, fun d M cs hR hl => ?_, u3⟩
    · obtain ⟨M1, p1, p2, p3⟩ := u1 d M cs hC
      have p3 : DD M1 b n m e p := p3
      obtain ⟨M2, q1, q2, q3⟩ := CmG_d (X := X) (d := d) hT p3 (M1.1 3 0 10)
      exact ⟨M2, k3_trans p2 q2, q1, fun K hK => ⟨_, p1, _, _, c34_d p3, fun z => absurd rfl z, fun _ => ⟨_, _, c34_d p3, fun z => absurd rfl z, fun _ => ⟨_, _, c34_d p3, fun z => absurd rfl z, fun _ => ⟨_, c37_d p3, q3 K hK⟩⟩⟩⟩⟩
    · obtain ⟨M1, p1, p2, p3⟩ := u2 d M cs hR hl
      exact ⟨M1, e185 (w185_0 ⟨fun _ => ⟨fun _ => ⟨_, _, p1, fun z => absurd rfl z, fun _ => ⟨isB0, rfl, rfl⟩⟩, fun z => absurd z (f140 hR)⟩, fun z => absurd z (f6 hR)⟩), p2, p3⟩
  | .inl (j, nw), u1, u2, u3 =>
    obtain ⟨g1, g2, g3, g4, g5⟩ := u3
    have u1 : ∀ d M cs, CL M b n m i cs → ∃ M', CC X (d + 4) 42 [vR 3 0] M none M' ∧ K3 SmP M M' ∧ CL M' b n m j (cs ++ nw) := u1
    have u2 : ∀ d M cs, RL M b n m i cs → cs.length ≤ i → ∃ M', CC X (d + 11) 180 [vR 100 0] M (some (vI 1)) M' ∧ K3 RfP M M' ∧ RL M' b n m j (cs ++ nw) := u2
    by_cases hop : tk b n j = 20060 ∨ tk b n j = 20061 ∨ tk b n j = 20062
    · have hjlt : j < m := tk_in hT (by omega)
      obtain ⟨s, hs, hs2, hs3, hs4⟩ : ∃ s : Nat, ((tk b n j = 20060 ∧ s = 27) ∨ (tk b n j = 20061 ∧ s = 28) ∨ (tk b n j = 20062 ∧ s = 29)) ∧ iN (tk b n j) = tok s 0 ∧ s ≠ 26 ∧ 27 ≤ s ∧ s ≤ 29 := by
        rcases hop with h | h | h
        · exact ⟨27, Or.inl ⟨h, rfl⟩, by rw [h]; rfl, by decide, by decide, by decide⟩
        · exact ⟨28, Or.inr (Or.inl ⟨h, rfl⟩), by rw [h]; rfl, by decide, by decide, by decide⟩
        · exact ⟨29, Or.inr (Or.inr ⟨h, rfl⟩), by rw [h]; rfl, by decide, by decide, by decide⟩
      have goC : ∀ {d : Nat} {M M8 : Mem} {cs : Cds} {K : Mem → Prop}, CC X (d + 4) 42 [vR 3 0] M none M8 → CL M8 b n m j cs → CmG X (d + 4) (M8.1 3 0 10) M8 K → CmT X (d + 4) M K := by
        intro d M M8 cs K h1 hC h2
        refine ⟨_, h1, _, _, c34 (t := 20060) hT hC.1 (by decide), fun _ => h2, fun z => ⟨_, _, c34 (t := 20061) hT hC.1 (by decide), fun _ => h2, fun z2 => ⟨_, _, c34 (t := 20062) hT hC.1 (by decide), fun _ => h2, fun z3 => ?_⟩⟩⟩
        rcases hop with h | h | h
        · rw [bI1 h] at z
          exact absurd z n10
        · rw [bI1 h] at z2
          exact absurd z2 n10
        · rw [bI1 h] at z3
          exact absurd z3 n10
      have goR : ∀ {d : Nat} {M M1 M2 M3 M4 : Mem} {cs cs1 : Cds} {r1 : Int32}, RL M b n m i cs → CC X (d + 11) 180 [vR 100 0] M (some (vI 1)) M1 → RL M1 b n m j cs1 → CC X (d + 11) 175 [vR 100 0] M1 none M2 → CC X (d + 11) 180 [vR 100 0] M2 (some (vI r1)) M3 → ((r1 = 1 ∧ CC X (d + 11) 178 [vR 100 0, vI (iN s), vI 0] M3 none M4) ∨ (r1 = 0 ∧ M4 = M3)) → CC X (d + 12) 185 [vR 100 0] M (some (vI r1)) M4 := by
        intro d M M1 M2 M3 M4 cs cs1 r1 hR h1 hR1 h2 h3 h4
        have r18 := hR1.1.2.2.2.2.1
        refine e185 (w185_0 ⟨fun _ => ⟨fun _ => ⟨_, _, h1, fun _ => ?_, fun z => absurd z n10⟩, fun z => absurd z (f140 hR)⟩, fun z => absurd z (f6 hR)⟩)
        have tl : ∃ (M6 : Mem), CC X (d + 11) 175 [vR 100 0] M1 none M6 ∧ ∃ (r4 : Int32) (M7 : Mem), CC X (d + 11) 180 [vR 100 0] M6 (some (vI r4)) M7 ∧ (¬ r4 = 0 → ∃ (M8 : Mem), CC X (d + 11) 178 [vR 100 0, vI (iN s), vI 0] M7 none M8 ∧ isB 1 ∧ (some (vI 1) = some (vI r1) ∧ M8 = M4)) ∧ (r4 = 0 → isB 0 ∧ (some (vI 0) = some (vI r1) ∧ M7 = M4)) := by
          refine ⟨_, h2, _, _, h3, fun z => ?_, fun z => ?_⟩
          · rcases h4 with ⟨e1, e2⟩ | ⟨e1, e2⟩
            · subst e1
              exact ⟨_, e2, isB1, rfl, rfl⟩
            · exact absurd e1 z
          · rcases h4 with ⟨e1, e2⟩ | ⟨e1, e2⟩
            · rw [z] at e1
              exact absurd e1 (by decide)
            · subst e1
              exact ⟨isB0, rfl, e2.symm⟩
        rcases hs with ⟨hk, hs⟩ | ⟨hk, hs⟩ | ⟨hk, hs⟩
        · subst hs
          have a1 : M1.1 100 0 18 = 160 := r18_eq (c := 60) r18 (by decide) (by decide) (by decide) hk
          exact ⟨fun z => absurd a1 z, fun _ => ⟨fun _ => tl, fun z => absurd z (by decide)⟩⟩
        · subst hs
          have a1 : ¬ M1.1 100 0 18 = 160 := r18_ne (c := 60) hT r18 (by decide) (by decide) (by decide) (by omega)
          have a2 : M1.1 100 0 18 = 161 := r18_eq (c := 61) r18 (by decide) (by decide) (by decide) hk
          exact ⟨fun _ => ⟨fun z => absurd a2 z, fun _ => ⟨fun _ => tl, fun z => absurd z (by decide)⟩⟩, fun z => absurd z a1⟩
        · subst hs
          have a1 : ¬ M1.1 100 0 18 = 160 := r18_ne (c := 60) hT r18 (by decide) (by decide) (by decide) (by omega)
          have a2 : ¬ M1.1 100 0 18 = 161 := r18_ne (c := 61) hT r18 (by decide) (by decide) (by decide) (by omega)
          have a3 : M1.1 100 0 18 = 162 := r18_eq (c := 62) r18 (by decide) (by decide) (by decide) hk
          exact ⟨fun _ => ⟨fun _ => ⟨fun z => absurd a3 z, fun _ => ⟨fun _ => tl, fun z => absurd z (by decide)⟩⟩, fun z => absurd z a2⟩, fun z => absurd z a1⟩
      obtain ⟨r2, v1, v2, v3⟩ := sum_sim hX hT (j + 1) (by omega)
      match r2, v1, v2, v3 with
      | .inr (e, p), v1, v2, v3 =>
        refine ⟨.inr (e, p), fun d M cs hC => ?_, fun d M cs hR hl => ?_, v3⟩
        · obtain ⟨M1, p1, p2, p3⟩ := u1 d M cs hC
          obtain ⟨M2, q1, q2, q3⟩ := c36 (X := X) (d := d + 3) hT p3.1 hjlt
          obtain ⟨M3, s1, s2, s3⟩ := v1 d M2 (cs ++ nw) ((p3.w.k q2 q3).l (by have := p3.2.2.2; omega))
          obtain ⟨M4, t1, t2, t3⟩ := c4_s (X := X) (d := d + 3) (x := M1.1 3 0 10) s3
          exact ⟨M4, k3_trans p2 (k3_trans (k3_sub q3 Sp_s) (k3_trans s2 t3)), t2, fun K hK => goC p1 p3 ⟨_, q1, _, s1, _, t1, hK⟩⟩
        · obtain ⟨M1, p1, p2, p3⟩ := u2 d M cs hR hl
          obtain ⟨M2, q1, q2, q3⟩ := p3.next (X := X) (d := d + 3) hX hT hjlt
          obtain ⟨M3, s1, s2, s3⟩ := v2 d M2 (cs ++ nw) q2 (by rw [List.length_append]; omega)
          exact ⟨M3, goR hR p1 p3 q1 s1 (Or.inr ⟨rfl, rfl⟩), k3_trans p2 (k3_trans (k3_sub q3 Nx_r) s2), s3⟩
      | .inl (j2, nw2), v1, v2, v3 =>
        obtain ⟨w1, w2, w3, w4, w5⟩ := v3
        have v1 : ∀ d M cs, CL M b n m (j + 1) cs → ∃ M', CC X (d + 4) 42 [vR 3 0] M none M' ∧ K3 SmP M M' ∧ CL M' b n m j2 (cs ++ nw2) := v1
        have v2 : ∀ d M cs, RL M b n m (j + 1) cs → cs.length ≤ j + 1 → ∃ M', CC X (d + 11) 180 [vR 100 0] M (some (vI 1)) M' ∧ K3 RfP M M' ∧ RL M' b n m j2 (cs ++ nw2) := v2
        refine ⟨.inl (j2, nw ++ nw2 ++ [(s, 0)]), fun d M cs hC => ?_, fun d M cs hR hl => ?_, ?_⟩
        · have hlc := hC.2.2.2
          obtain ⟨M1, p1, p2, p3⟩ := u1 d M cs hC
          obtain ⟨M2, q1, q2, q3⟩ := c36 (X := X) (d := d + 3) hT p3.1 hjlt
          obtain ⟨M3, s1, s2, s3⟩ := v1 d M2 (cs ++ nw) ((p3.w.k q2 q3).l (by have := p3.2.2.2; omega))
          obtain ⟨M4, t1, t2, t3⟩ := s3.emit (X := X) (d := d + 3) (s := s) (v := 0) (x := M1.1 3 0 10) hT hs3 (by rw [p3.1.2.2.2.1]; exact hs2) (by rw [tr_app, tr_app, List.length_append, List.length_append]; omega)
          refine ⟨M4, k3_trans p2 (k3_trans (k3_sub q3 Sp_s) (k3_trans s2 (k3_sub t3 (fun c a j z => Or.inr z)))), ?_, fun K hK => goC p1 p3 ⟨_, q1, _, s1, _, t1, hK⟩⟩
          show CL M4 b n m j2 (cs ++ (nw ++ nw2 ++ [(s, 0)]))
          rw [← List.append_assoc, ← List.append_assoc]
          exact t2
        · obtain ⟨M1, p1, p2, p3⟩ := u2 d M cs hR hl
          obtain ⟨M2, q1, q2, q3⟩ := p3.next (X := X) (d := d + 3) hX hT hjlt
          obtain ⟨M3, s1, s2, s3⟩ := v2 d M2 (cs ++ nw) q2 (by rw [List.length_append]; omega)
          obtain ⟨M4, t1, t2, t3⟩ := c178 (X := X) (d := d + 10) (s := s) (v := 0) (x := iN s) (y := 0) s3 (by rw [List.length_append, List.length_append]; omega) rfl (fun _ => rfl)
          refine ⟨M4, goR hR p1 p3 q1 s1 (Or.inl ⟨rfl, t1⟩), k3_trans p2 (k3_trans (k3_sub q3 Nx_r) (k3_trans s2 (k3_sub t3 (fun c a j z => by simp only [RfP]; omega)))), ?_⟩
          show RL M4 b n m j2 (cs ++ (nw ++ nw2 ++ [(s, 0)]))
          rw [← List.append_assoc, ← List.append_assoc]
          exact t2
        · refine ⟨by omega, w2, ?_, ?_, fun t ht => Ty_app' (Ty_app' (g5 t (by omega)) (w5 (false :: t) (by simp only [List.length_cons]; omega))) ⟨_, Or.inr (Or.inr (Or.inr (Or.inr (Or.inr (Or.inl ⟨hs4.1, hs4.2, rfl, _, rfl, rfl⟩))))), rfl⟩⟩
          · rw [tr_app, tr_app, List.length_append, List.length_append, tr_s hs3, show ([tok s 0] : List Int32).length = 1 from rfl]
            omega
          · rw [List.length_append, List.length_append, show ([(s, 0)] : Cds).length = 1 from rfl]
            omega
    · refine ⟨.inr (1, j), fun d M cs hC => ?_, fun d M cs hR hl => ?_, by show 1 ≤ 1 ∧ 1 ≤ 3; omega⟩
      · obtain ⟨M1, p1, p2, p3⟩ := u1 d M cs hC
        obtain ⟨M2, q1, q2, q3⟩ := c37 (X := X) (d := d + 3) (e := 1) hT p3.1 (by decide) (by decide)
        obtain ⟨M3, s1, s2, s3⟩ := CmG_d (X := X) (d := d) hT q2 (M1.1 3 0 10)
        exact ⟨M3, k3_trans p2 (k3_trans (k3_sub q3 Bl_s) s2), s1, fun K hK => ⟨_, p1, _, _, c34 (t := 20060) hT p3.1 (by decide), fun z => absurd (bI0 (by omega)) z, fun _ => ⟨_, _, c34 (t := 20061) hT p3.1 (by decide), fun z => absurd (bI0 (by omega)) z, fun _ => ⟨_, _, c34 (t := 20062) hT p3.1 (by decide), fun z => absurd (bI0 (by omega)) z, fun _ => ⟨_, q1, s3 K hK⟩⟩⟩⟩⟩
      · obtain ⟨M1, p1, p2, p3⟩ := u2 d M cs hR hl
        have r18 := p3.1.2.2.2.2.1
        have a1 : ¬ M1.1 100 0 18 = 160 := r18_ne (c := 60) hT r18 (by decide) (by decide) (by decide) (by omega)
        have a2 : ¬ M1.1 100 0 18 = 161 := r18_ne (c := 61) hT r18 (by decide) (by decide) (by decide) (by omega)
        have a3 : ¬ M1.1 100 0 18 = 162 := r18_ne (c := 62) hT r18 (by decide) (by decide) (by decide) (by omega)
        obtain ⟨M2, q1, q2, q3⟩ := c176 (X := X) (d := d + 10) (e := 1) p3.1
        exact ⟨M2, e185 (w185_0 ⟨fun _ => ⟨fun _ => ⟨_, _, p1, fun _ => ⟨fun _ => ⟨fun _ => ⟨fun _ => ⟨fun z => absurd rfl z, fun _ => ⟨_, _, q1, isB0, rfl, rfl⟩⟩, fun z => absurd z a3⟩, fun z => absurd z a2⟩, fun z => absurd z a1⟩, fun z => absurd z n10⟩, fun z => absurd z (f140 hR)⟩, fun z => absurd z (f6 hR)⟩), k3_trans p2 (k3_sub q3 (fun c a j z => by simp only [RfP]; omega)), q2⟩
