/-! sums -/
def SmT (X : Cx) (d : Nat) (M : Mem) (q : Int32) (Q : Option Vl → Mem → Prop) : Prop := ∃ (r3 : Int32) (M7 : Mem), CC X d 34 [vR 3 0, vI 20043] M (some (vI r3)) M7 ∧ (¬ r3 = 0 → ∃ (M8 : Mem), CC X d 36 [vR 3 0] M7 none M8 ∧ V X (d + 1) 42 4 [some (vR 3 0), some (vI (M7.1 3 0 10)), some (vI (q + 1))] [] M8 Q) ∧ (r3 = 0 → ∃ (r4 : Int32) (M9 : Mem), CC X d 34 [vR 3 0, vI 20045] M7 (some (vI r4)) M9 ∧ (¬ r4 = 0 → ∃ (M10 : Mem), CC X d 36 [vR 3 0] M9 none M10 ∧ V X (d + 1) 42 4 [some (vR 3 0), some (vI (M9.1 3 0 10)), some (vI (q + 1))] [] M10 Q) ∧ (r4 = 0 → Q none M9))
theorem SmT_d {X : Cx} {d : Nat} {M : Mem} {b : Nat → Nat} {n m e p : Nat} {x : Int32} {Q : Option Vl → Mem → Prop} (h : DD M b n m e p) (q : Q none M) : SmT X (d + 3) M x Q := ⟨_, _, c34_d h, fun z => absurd rfl z, fun _ => ⟨_, _, c34_d h, fun z => absurd rfl z, fun _ => q⟩⟩
def StC (X : Cx) (b : Nat → Nat) (n m j : Nat) (r : Rs) : Prop := ∀ (d q : Nat) (M : Mem) (cs : Cds), q + 1 ≤ j → CL M b n m j cs → ∃ M', K3 SmP M M' ∧ rsC (fun j' nw => CL M' b n m j' (cs ++ nw)) (fun e p => DD M' b n m e p) r ∧ ∀ Q : Option Vl → Mem → Prop, Q none M' → SmT X (d + 3) M (iN q) Q
def StR (X : Cx) (b : Nat → Nat) (n m j : Nat) (r : Rs) : Prop := ∀ (d : Nat) (M : Mem) (cs : Cds), RL M b n m j cs → cs.length ≤ j → ∃ M', K3 RfP M M' ∧ rsC (fun j' nw => RL M' b n m j' (cs ++ nw)) (fun e p => Bad M' b n e p) r ∧ ∀ Q : Option Vl → Mem → Prop, Q (some (vI (okB r))) M' → V X (d + 11) 180 9 [some (vR 100 0), none] [] M Q
theorem stail {X : Cx} {b : Nat → Nat} {n m : Nat} (hX : StrOk X) (hT : Tok b n m) : ∀ (k j : Nat), m - j ≤ k → j ≤ m → ∃ r : Rs, StC X b n m j r ∧ StR X b n m j r ∧ GdT m j 2 r := by
  have hm := hT.1
  have hn := hT.2.1
  have stop : ∀ j, j ≤ m → ¬ tk b n j = 20043 → ¬ tk b n j = 20045 → ∃ r : Rs, StC X b n m j r ∧ StR X b n m j r ∧ GdT m j 2 r := by
    intro j hjm h1 h2
    refine ⟨.inl (j, []), fun d q M cs hq hC => ⟨M, k3_refl, by show CL M b n m j (cs ++ []); rw [List.append_nil]; exact hC, fun Q hQ => ⟨_, _, c34 (t := 20043) hT hC.1 (by decide), fun z => absurd (bI0 h1) z, fun _ => ⟨_, _, c34 (t := 20045) hT hC.1 (by decide), fun z => absurd (bI0 h2) z, fun _ => hQ⟩⟩⟩, fun d M cs hR hl => ⟨M, k3_refl, by show RL M b n m j (cs ++ []); rw [List.append_nil]; exact hR, fun Q hQ => w180_9 ?_⟩, ⟨by omega, by omega, by simp [tr], by simp, fun t _ => rfl⟩⟩
    have r18 := hR.1.2.2.2.2.1
    have a1 : ¬ M.1 100 0 18 = 143 := r18_ne (c := 43) hT r18 (by decide) (by decide) (by decide) h1
    have a2 : ¬ M.1 100 0 18 = 145 := r18_ne (c := 45) hT r18 (by decide) (by decide) (by decide) h2
    exact ⟨fun z => absurd z a1, fun _ => ⟨fun _ => ⟨isB1, hQ⟩, fun z => absurd z a2⟩⟩
  intro k
  induction k with
  | zero =>
    intro j hj hjm
    have htk := tk_ge hT (show m ≤ j by omega)
    exact stop j hjm (by omega) (by omega)
  | succ k ih =>
    intro j hj hjm
    by_cases hpm : tk b n j = 20043 ∨ tk b n j = 20045
    · have hjlt : j < m := tk_in hT (by omega)
      obtain ⟨s, hs, hs2, hs3, hs4⟩ : ∃ s : Nat, (s = if tk b n j = 20043 then 23 else 24) ∧ iN (tk b n j) = tok s 0 ∧ s ≠ 26 ∧ 23 ≤ s ∧ s ≤ 25 := by
        rcases hpm with h | h
        · exact ⟨23, by rw [h]; rfl, by rw [h]; rfl, by decide, by decide, by decide⟩
        · exact ⟨24, by rw [h]; rfl, by rw [h]; rfl, by decide, by decide, by decide⟩
      have hne : ∀ {M : Mem}, CA M b n m j → ¬ M.1 3 0 10 = -1 := by
        intro M hC
        rw [hC.2.2.2.1]
        rcases hpm with h | h <;> rw [h] <;> decide
      -- the class reads its sign
      have goC : ∀ {d q : Nat} {M M8 : Mem} {cs : Cds} {Q : Option Vl → Mem → Prop}, CL M b n m j cs → CC X (d + 3) 36 [vR 3 0] M none M8 → V X (d + 4) 42 4 [some (vR 3 0), some (vI (M.1 3 0 10)), some (vI (iN q + 1))] [] M8 Q → SmT X (d + 3) M (iN q) Q := by
        intro d q M M8 cs Q hC h1 h2
        refine ⟨_, _, c34 (t := 20043) hT hC.1 (by decide), fun _ => ⟨_, h1, h2⟩, fun z => ⟨_, _, c34 (t := 20045) hT hC.1 (by decide), fun _ => ⟨_, h1, h2⟩, fun z2 => ?_⟩⟩
        rcases hpm with h | h
        · rw [bI1 h] at z
          exact absurd z n10
        · rw [bI1 h] at z2
          exact absurd z2 n10
      -- so does the reference
      have goR : ∀ {d : Nat} {M M1 M2 : Mem} {cs : Cds} {r1 : Int32} {Q : Option Vl → Mem → Prop}, RL M b n m j cs → CC X (d + 10) 175 [vR 100 0] M none M1 → CC X (d + 10) 181 [vR 100 0] M1 (some (vI r1)) M2 → (¬ r1 = 0 → ∃ M3, CC X (d + 10) 178 [vR 100 0, vI (iN s), vI 0] M2 none M3 ∧ V X (d + 11) 180 9 [some (vR 100 0), none] [] M3 Q) → (r1 = 0 → Q (some (vI 0)) M2) → V X (d + 11) 180 9 [some (vR 100 0), none] [] M Q := by
        intro d M M1 M2 cs r1 Q hR h1 h2 h3 h4
        have r18 := hR.1.2.2.2.2.1
        refine w180_9 ?_
        by_cases h : tk b n j = 20043
        · have a1 : M.1 100 0 18 = 143 := r18_eq (c := 43) r18 (by decide) (by decide) (by decide) h
          rw [if_pos h] at hs
          subst hs
          exact ⟨fun _ => ⟨fun z => absurd a1 z, fun _ => ⟨_, h1, _, _, h2, h3, fun z => ⟨isB0, h4 z⟩⟩⟩, fun z => absurd a1 z⟩
        · have h5 : tk b n j = 20045 := by omega
          have a1 : ¬ M.1 100 0 18 = 143 := r18_ne (c := 43) hT r18 (by decide) (by decide) (by decide) h
          have a2 : M.1 100 0 18 = 145 := r18_eq (c := 45) r18 (by decide) (by decide) (by decide) h5
          rw [if_neg h] at hs
          subst hs
          exact ⟨fun z => absurd z a1, fun _ => ⟨fun z => absurd a2 z, fun _ => ⟨fun _ => ⟨_, h1, _, _, h2, h3, fun z => ⟨isB0, h4 z⟩⟩, fun z => absurd z a1⟩⟩⟩
      obtain ⟨r1, u1, u2, u3⟩ := product_sim hX hT (j + 1) (by omega)
      match r1, u1, u2, u3 with
      | .inr (e, p), u1, u2, u3 =>
        refine ⟨.inr (e, p), fun d q M cs hq hC => ?_, fun d M cs hR hl => ?_, u3⟩
        · obtain ⟨M7, p1, p2, p3⟩ := c36 (X := X) (d := d + 2) hT hC.1 hjlt
          obtain ⟨M8, q1, q2, q3⟩ := u1 d M7 cs ((hC.w.k p2 p3).l (by have := hC.2.2.2; omega))
          obtain ⟨M9, s1, s2, s3⟩ := c4_s (X := X) (d := d + 2) (x := M.1 3 0 10) q3
          refine ⟨M9, k3_trans (k3_sub p3 Sp_s) (k3_trans q2 s3), s2, fun Q hQ => goC hC p1 (w42_4 ⟨fun z => absurd z ?_, fun _ => ⟨_, q1, fun z => absurd z (hne hC.1), fun _ => ⟨_, s1, SmT_d s2 hQ⟩⟩⟩)⟩
          rw [iN_step, show (400 ≤ iN (q + 1)) = False from nle_ (a := 400) (by decide) (by omega) (by omega)]
          exact id
        · obtain ⟨M1, p1, p2, p3⟩ := hR.next (X := X) (d := d + 2) hX hT hjlt
          obtain ⟨M2, q1, q2, q3⟩ := u2 d M1 cs p2 (by omega)
          exact ⟨M2, k3_trans (k3_sub p3 Nx_r) q2, q3, fun Q hQ => goR hR p1 q1 (fun z => absurd rfl z) (fun _ => hQ)⟩
      | .inl (j1, nw), u1, u2, u3 =>
        obtain ⟨g1, g2, g3, g4, g5⟩ := u3
        obtain ⟨r2, v1, v2, v3⟩ := ih j1 (by omega) g2
        refine ⟨rP (nw ++ [(s, 0)]) r2, fun d q M cs hq hC => ?_, fun d M cs hR hl => ?_, ?_⟩
        · obtain ⟨M7, p1, p2, p3⟩ := c36 (X := X) (d := d + 2) hT hC.1 hjlt
          obtain ⟨M8, q1, q2, q3⟩ := u1 d M7 cs ((hC.w.k p2 p3).l (by have := hC.2.2.2; omega))
          have hlc := hC.2.2.2
          have q3 : CL M8 b n m j1 (cs ++ nw) := q3
          obtain ⟨M9, s1, s2, s3⟩ := q3.emit (X := X) (d := d + 2) (s := s) (v := 0) (x := M.1 3 0 10) hT hs3 (by rw [hC.1.2.2.2.1]; exact hs2) (by rw [tr_app, List.length_append]; omega)
          obtain ⟨M', f1, f2, f3⟩ := v1 d (q + 1) M9 (cs ++ nw ++ [(s, 0)]) (by omega) s2
          refine ⟨M', k3_trans (k3_sub p3 Sp_s) (k3_trans q2 (k3_trans (k3_sub s3 (fun c a j z => Or.inr z)) f1)), rs_pre (by rw [← List.append_assoc]; exact f2), fun Q hQ => goC hC p1 ?_⟩
          rw [iN_step]
          refine w42_4 ⟨fun z => absurd z ?_, fun _ => ⟨_, q1, fun z => absurd z (hne hC.1), fun _ => ⟨_, s1, f3 Q hQ⟩⟩⟩
          rw [show (400 ≤ iN (q + 1)) = False from nle_ (a := 400) (by decide) (by omega) (by omega)]
          exact id
        · obtain ⟨M1, p1, p2, p3⟩ := hR.next (X := X) (d := d + 2) hX hT hjlt
          obtain ⟨M2, q1, q2, q3⟩ := u2 d M1 cs p2 (by omega)
          have q3 : RL M2 b n m j1 (cs ++ nw) := q3
          have hln : (cs ++ nw).length < j1 := by rw [List.length_append]; omega
          obtain ⟨M3, s1, s2, s3⟩ := c178 (X := X) (d := d + 9) (s := s) (v := 0) (x := iN s) (y := 0) q3 (by omega) rfl (fun _ => rfl)
          obtain ⟨M', f1, f2, f3⟩ := v2 d M3 (cs ++ nw ++ [(s, 0)]) s2 (by rw [List.length_append]; exact hln)
          refine ⟨M', k3_trans (k3_sub p3 Nx_r) (k3_trans q2 (k3_trans (k3_sub s3 (fun c a j z => by simp only [RfP]; omega)) f1)), rs_pre (by rw [← List.append_assoc]; exact f2), fun Q hQ => goR hR p1 q1 (fun _ => ⟨_, s1, f3 Q ?_⟩) (fun z => absurd z n10)⟩
          rw [okB_pre] at hQ
          exact hQ
        · match r2, v3 with
          | .inr _, v3 => exact v3
          | .inl (j2, nw2), v3 =>
            obtain ⟨w1, w2, w3, w4, w5⟩ := v3
            refine ⟨by omega, w2, ?_, ?_, fun t ht => Ty_app' (Ty_app' (g5 (false :: t) (by simp only [List.length_cons]; omega)) ⟨_, Or.inr (Or.inr (Or.inr (Or.inr (Or.inl ⟨hs4.1, hs4.2, rfl, _, rfl, rfl⟩)))), rfl⟩) (w5 t ht)⟩
            · rw [tr_app, tr_app, List.length_append, List.length_append, tr_s hs3, show ([tok s 0] : List Int32).length = 1 from rfl]
              omega
            · rw [List.length_append, List.length_append, show ([(s, 0)] : Cds).length = 1 from rfl]
              omega
    · exact stop j hjm (by omega) (by omega)
theorem sum_sim {X : Cx} {b : Nat → Nat} {n m : Nat} (hX : StrOk X) (hT : Tok b n m) (i : Nat) (hi : i ≤ m) : ∃ r : Rs, (∀ d, ClR X b n m (d + 4) 42 i r) ∧ (∀ d, RfR X b n m (d + 11) 180 i r) ∧ GdR m i 2 r := by
  obtain ⟨r1, u1, u2, u3⟩ := product_sim hX hT i hi
  match r1, u1, u2, u3 with
  | .inr (e, p), u1, u2, u3 =>
    refine ⟨.inr (e, p), fun d M cs hC => ?_, fun d M cs hR hl => ?_, u3⟩
    · obtain ⟨M1, p1, p2, p3⟩ := u1 d M cs hC
      exact ⟨M1, e42 (w42_0 (w42_4 ⟨fun z => absurd z (by decide), fun _ => ⟨_, p1, fun _ => SmT_d p3 ⟨rfl, rfl⟩, fun z => absurd rfl z⟩⟩)), p2, p3⟩
    · obtain ⟨M1, p1, p2, p3⟩ := u2 d M cs hR hl
      exact ⟨M1, e180 (w180_0 ⟨_, _, p1, fun z => absurd rfl z, fun _ => ⟨isB0, rfl, rfl⟩⟩), p2, p3⟩
  | .inl (j, nw), u1, u2, u3 =>
    obtain ⟨g1, g2, g3, g4, g5⟩ := u3
    obtain ⟨r2, v1, v2, v3⟩ := stail hX hT (m - j) j (Nat.le_refl _) g2
    refine ⟨rP nw r2, fun d M cs hC => ?_, fun d M cs hR hl => ?_, ?_⟩
    · obtain ⟨M1, p1, p2, p3⟩ := u1 d M cs hC
      obtain ⟨M', f1, f2, f3⟩ := v1 d 0 M1 (cs ++ nw) (by omega) p3
      exact ⟨M', e42 (w42_0 (w42_4 ⟨fun z => absurd z (by decide), fun _ => ⟨_, p1, fun _ => f3 _ ⟨rfl, rfl⟩, fun z => absurd rfl z⟩⟩)), k3_trans p2 f1, rs_pre f2⟩
    · obtain ⟨M1, p1, p2, p3⟩ := u2 d M cs hR hl
      obtain ⟨M', f1, f2, f3⟩ := v2 d M1 (cs ++ nw) p3 (by rw [List.length_append]; omega)
      exact ⟨M', e180 (w180_0 ⟨_, _, p1, fun _ => f3 _ ⟨by rw [okB_pre], rfl⟩, fun z => absurd z n10⟩), k3_trans p2 f1, rs_pre f2⟩
    · match r2, v3 with
      | .inr _, v3 => exact v3
      | .inl (j2, nw2), v3 =>
        obtain ⟨w1, w2, w3, w4, w5⟩ := v3
        refine ⟨by omega, w2, ?_, ?_, fun t ht => Ty_app' (g5 t (by omega)) (w5 t ht)⟩
        · rw [tr_app, List.length_append]
          omega
        · rw [List.length_append]
          omega
