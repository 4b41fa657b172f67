/-! conditions, read by both -/
abbrev RcP : Nat → Nat → Nat → Prop := fun c a j => a = 0 ∧ ((c = 100 ∧ (j = 14 ∨ j = 17 ∨ j = 18 ∨ j = 19 ∨ j = 20 ∨ j = 21 ∨ j = 22 ∨ j = 24)) ∨ c = 106)
theorem Rf_c : ∀ c a j, RfP c a j → RcP c a j := fun c a j h => by simp only [RfP] at h; simp only [RcP]; omega
theorem Nx_c : ∀ c a j, NxP c a j → RcP c a j := fun c a j h => by simp only [NxP] at h; simp only [RcP]; omega
def RfO (X : Cx) (b : Nat → Nat) (n m K meth i o : Nat) (r : Rs) : Prop := ∀ D, 3 * (8 - o) + K ≤ D → ∀ (M : Mem) (cs : Cds), RL M b n m i cs → M.1 100 0 24 = iN o → cs.length ≤ i → ∃ M', CC X D meth [vR 100 0] M (some (vI (okB r))) M' ∧ K3 RcP M M' ∧ rsC (fun j nw => RL M' b n m j (cs ++ nw) ∧ M'.1 100 0 24 = iN o) (fun e p => Bad M' b n e p) r
def Lev (X : Cx) (b : Nat → Nat) (n m meth K L : Nat) (T : Nat → List Nat → Prop) (E : Nat → Prop) (i o : Nat) : Prop := ∃ r : Rs, CP X b n m (EV X b n m i) (T o) r ∧ RfO X b n m K meth i o r ∧ GdB m i (2 * (8 - o) + L) r ∧ rsC (fun j _ => E j) (fun _ _ => True) r
def GdU (m j L : Nat) (r : Rs) : Prop := rsC (fun j' nw => j ≤ j' ∧ j' ≤ m ∧ (tr nw).length ≤ j' - j ∧ nw.length ≤ j' - j ∧ ∀ t : List Bool, t.length + L ≤ 31 → Ty nw (true :: t) (true :: t)) (fun e _ => 1 ≤ e ∧ e ≤ 3) r
theorem rt_w18 {M : Mem} {b : Nat → Nat} {n m i w r : Nat} (hT : Tok b n m) (h : M.1 100 0 18 = iN (rt 0 (tk b n i))) (hw : (w = 10013 ∧ r = 3) ∨ (w = 10014 ∧ r = 4) ∨ (w = 10015 ∧ r = 5) ∨ (w = 10016 ∧ r = 6) ∨ (w = 10010 ∧ r = 20) ∨ (w = 10011 ∧ r = 21) ∨ (w = 10012 ∧ r = 22)) : (M.1 100 0 18 = iN r) = (tk b n i = w) := by
  have h2 := rt_b (k := 0) (tk_b hT i)
  rw [h, i_eq (by omega) (by omega), rt_w0 hw]
theorem rs_and {P : Nat → Cds → Prop} {A : Prop} {B : Nat → Nat → Prop} {cs pre : Cds} : ∀ {r : Rs}, rsC (fun j nw => P j (cs ++ pre ++ nw) ∧ A) B r → rsC (fun j nw => P j (cs ++ nw) ∧ A) B (rP pre r)
  | .inl (j, nw), h => by
    show P j (cs ++ (pre ++ nw)) ∧ A
    rw [← List.append_assoc]
    exact h
  | .inr _, h => h
theorem level {X : Cx} {b : Nat → Nat} {n m k : Nat} (hX : StrOk X) (hT : Tok b n m) {w cd rtn mS mE KS LS : Nat} {TS TL : Nat → List Nat → Prop} {ES' : Nat → Prop} (hK : 8 ≤ KS) (hw : (w = 10015 ∧ cd = 31 ∧ rtn = 5) ∨ (w = 10014 ∧ cd = 32 ∧ rtn = 4))
    (t1 : ∀ o s, TL o s → TS o s) (t2 : ∀ o s, TL o s → TS o (w :: s)) (t3 : ∀ o s, TL o s → s.length + 1 ≤ 32 ∧ ∀ x s', s = x :: s' → ¬ (w ≤ x ∧ x ≤ 10016)) (pop : ∀ j, ES' j → (w = 10015 ∨ (w = 10014 ∧ ¬ tk b n j = 10015)))
    (h9 : ∀ {D : Nat} {M : Mem} {Q : Option Vl → Mem → Prop}, (¬ M.1 100 0 18 = iN rtn → isB 1 ∧ Q (some (vI 1)) M) ∧ (M.1 100 0 18 = iN rtn → ∃ M1, CC X D 175 [vR 100 0] M none M1 ∧ ∃ r1 M2, CC X D mS [vR 100 0] M1 (some (vI r1)) M2 ∧ (¬ r1 = 0 → ∃ M3, CC X D 178 [vR 100 0, vI (iN cd), vI 0] M2 none M3 ∧ V X (D + 1) mE 9 [some (vR 100 0)] [] M3 Q) ∧ (r1 = 0 → isB 0 ∧ Q (some (vI 0)) M2)) → V X (D + 1) mE 9 [some (vR 100 0)] [] M Q)
    (h0 : ∀ {D : Nat} {M M2 : Mem} {r : Int32}, (∃ r1 M1, CC X D mS [vR 100 0] M (some (vI r1)) M1 ∧ (¬ r1 = 0 → V X (D + 1) mE 9 [some (vR 100 0)] [] M1 (fun r' M' => r' = some (vI r) ∧ M' = M2)) ∧ (r1 = 0 → isB 0 ∧ (some (vI 0) = some (vI r) ∧ M1 = M2))) → CC X (D + 1) mE [vR 100 0] M (some (vI r)) M2)
    (sub : ∀ i, m - i ≤ k → i ≤ m → ∀ o, o ≤ 8 → Lev X b n m mS KS LS TS ES' i o) :
    ∀ i, m - i ≤ k → i ≤ m → ∀ o, o ≤ 8 → Lev X b n m mE (KS + 1) (LS + 1) TL (fun j => ES' j ∧ ¬ tk b n j = w) i o := by
  have hm := hT.1
  have hn := hT.2.1
  have hwr : (w = 10013 ∧ rtn = 3) ∨ (w = 10014 ∧ rtn = 4) ∨ (w = 10015 ∧ rtn = 5) ∨ (w = 10016 ∧ rtn = 6) ∨ (w = 10010 ∧ rtn = 20) ∨ (w = 10011 ∧ rtn = 21) ∨ (w = 10012 ∧ rtn = 22) := by omega
  have hcd : ecd w = cd ∧ cd ≠ 26 ∧ 31 ≤ cd ∧ cd ≤ 32 := by unfold ecd; omega
  -- the tail
  have tail : ∀ (q j o : Nat), m - j ≤ q → m - j ≤ k → j ≤ m → o ≤ 8 → ES' j → ∃ r : Rs, CP X b n m (CV X b n m j) (TL o) r ∧ (∀ D, 3 * (8 - o) + KS ≤ D → ∀ (M : Mem) (cs : Cds), RL M b n m j cs → M.1 100 0 24 = iN o → cs.length ≤ j → ∃ M', K3 RcP M M' ∧ rsC (fun j nw => RL M' b n m j (cs ++ nw) ∧ M'.1 100 0 24 = iN o) (fun e p => Bad M' b n e p) r ∧ ∀ Q : Option Vl → Mem → Prop, Q (some (vI (okB r))) M' → V X (D + 1) mE 9 [some (vR 100 0)] [] M Q) ∧ GdU m j (2 * (8 - o) + (LS + 1)) r ∧ rsC (fun j _ => ES' j ∧ ¬ tk b n j = w) (fun _ _ => True) r := by
    have stop : ∀ (j o : Nat), j ≤ m → ES' j → ¬ tk b n j = w → ∃ r : Rs, CP X b n m (CV X b n m j) (TL o) r ∧ (∀ D, 3 * (8 - o) + KS ≤ D → ∀ (M : Mem) (cs : Cds), RL M b n m j cs → M.1 100 0 24 = iN o → cs.length ≤ j → ∃ M', K3 RcP M M' ∧ rsC (fun j nw => RL M' b n m j (cs ++ nw) ∧ M'.1 100 0 24 = iN o) (fun e p => Bad M' b n e p) r ∧ ∀ Q : Option Vl → Mem → Prop, Q (some (vI (okB r))) M' → V X (D + 1) mE 9 [some (vR 100 0)] [] M Q) ∧ GdU m j (2 * (8 - o) + (LS + 1)) r ∧ rsC (fun j _ => ES' j ∧ ¬ tk b n j = w) (fun _ _ => True) r := by
      intro j o hj he hne
      refine ⟨.inl (j, []), fun s cs F _ h => by rw [List.append_nil] at h; exact h, fun D hD M cs hR h24 hl => ⟨M, k3_refl, by show RL M b n m j (cs ++ []) ∧ _; rw [List.append_nil]; exact ⟨hR, h24⟩, fun Q hQ => h9 ⟨fun _ => ⟨isB1, hQ⟩, fun z => ?_⟩⟩, ⟨by omega, hj, by simp [tr], by simp, fun t _ => rfl⟩, ⟨he, hne⟩⟩
      rw [rt_w18 hT hR.1.2.2.2.2.1 hwr] at z
      exact absurd z hne
    intro q
    induction q with
    | zero =>
      intro j o hq hk hj ho he
      have htk := tk_ge hT (show m ≤ j by omega)
      exact stop j o hj he (by omega)
    | succ q ih =>
      intro j o hq hk hj ho he
      by_cases hjw : tk b n j = w
      · have hjlt : j < m := tk_in hT (by omega)
        have hao : isAO (tk b n j) := by unfold isAO; omega
        obtain ⟨r1, u1, u2, u3, u4⟩ := sub (j + 1) (by omega) (by omega) o ho
        match r1, u1, u2, u3, u4 with
        | .inr (e, p), u1, u2, u3, u4 =>
          refine ⟨.inr (e, p), fun s cs hs => CV_push hao (by rw [hjw]; exact (t3 o s hs).2) (t3 o s hs).1 (by rw [hjw]; exact u1 (w :: s) cs (t2 o s hs)), fun D hD M cs hR h24 hl => ?_, u3, trivial⟩
          obtain ⟨d, rfl⟩ : ∃ d, D = d + 8 := ⟨D - 8, by omega⟩
          obtain ⟨M1, p1, p2, p3⟩ := hR.next (X := X) (d := d) hX hT hjlt
          obtain ⟨M2, q1, q2, q3⟩ := u2 (d + 8) hD M1 cs p2 (by rw [p3 100 0 24 (by simp [NxP])]; exact h24) (by omega)
          refine ⟨M2, k3_trans (k3_sub p3 Nx_c) q2, q3, fun Q hQ => h9 ⟨fun z => absurd ?_ z, fun _ => ⟨_, p1, _, _, q1, fun z => absurd rfl z, fun _ => ⟨isB0, hQ⟩⟩⟩⟩
          rw [rt_w18 hT hR.1.2.2.2.2.1 hwr]
          exact hjw
        | .inl (j1, nw), u1, u2, u3, u4 =>
          obtain ⟨g1, g2, g3, g4, g5⟩ := u3
          obtain ⟨r2, v1, v2, v3, v4⟩ := ih j1 o (by omega) (by omega) g2 ho u4
          have cls : ∀ s cs F, TL o s → CV X b n m j1 s (cs ++ nw ++ [(cd, 0)]) F → CV X b n m j s cs F := by
            intro s cs F hs h
            refine CV_push hao (by rw [hjw]; exact (t3 o s hs).2) (t3 o s hs).1 ?_
            rw [hjw]
            refine u1 (w :: s) cs F (t2 o s hs) (CV_pop ?_ ?_)
            · have := pop j1 u4
              omega
            · rw [hcd.1]
              exact h
          have rfs : ∀ D, 3 * (8 - o) + KS ≤ D → ∀ (M : Mem) (cs : Cds), RL M b n m j cs → M.1 100 0 24 = iN o → cs.length ≤ j → ∃ M', K3 RcP M M' ∧ rsC (fun j nw => RL M' b n m j (cs ++ nw) ∧ M'.1 100 0 24 = iN o) (fun e p => Bad M' b n e p) (rP (nw ++ [(cd, 0)]) r2) ∧ ∀ Q : Option Vl → Mem → Prop, Q (some (vI (okB r2))) M' → V X (D + 1) mE 9 [some (vR 100 0)] [] M Q := by
            intro D hD M cs hR h24 hl
            obtain ⟨d, rfl⟩ : ∃ d, D = d + 8 := ⟨D - 8, by omega⟩
            obtain ⟨M1, p1, p2, p3⟩ := hR.next (X := X) (d := d) hX hT hjlt
            obtain ⟨M2, q1, q2, q3⟩ := u2 (d + 8) hD M1 cs p2 (by rw [p3 100 0 24 (by simp [NxP])]; exact h24) (by omega)
            have q3 : RL M2 b n m j1 (cs ++ nw) ∧ M2.1 100 0 24 = iN o := q3
            have hln : (cs ++ nw).length < j1 := by rw [List.length_append]; omega
            obtain ⟨M3, s1, s2, s3⟩ := c178 (X := X) (d := d + 7) (s := cd) (v := 0) (x := iN cd) (y := 0) q3.1 (by omega) rfl (fun _ => rfl)
            obtain ⟨M', f1, f2, f3⟩ := v2 (d + 8) hD M3 (cs ++ nw ++ [(cd, 0)]) s2 (by rw [s3 100 0 24 (by simp)]; exact q3.2) (by rw [List.length_append]; exact hln)
            refine ⟨M', k3_trans (k3_sub p3 Nx_c) (k3_trans q2 (k3_trans (k3_sub s3 (fun c a j z => by simp only [RcP]; omega)) f1)), rs_and (P := fun j l => RL M' b n m j l) (by rw [← List.append_assoc]; exact f2), fun Q hQ => h9 ⟨fun z => absurd ?_ z, fun _ => ⟨_, p1, _, _, q1, fun _ => ⟨_, s1, f3 Q hQ⟩, fun z => absurd z n10⟩⟩⟩
            rw [rt_w18 hT hR.1.2.2.2.2.1 hwr]
            exact hjw
          match r2, v1, v2, v3, v4, rfs with
          | .inr z, v1, v2, v3, v4, rfs => exact ⟨.inr z, fun s cs hs => cls s cs _ hs (v1 s _ hs), rfs, v3, trivial⟩
          | .inl (j2, nw2), v1, v2, v3, v4, rfs =>
            obtain ⟨w1, w2, w3, w4, w5⟩ := v3
            refine ⟨.inl (j2, nw ++ [(cd, 0)] ++ nw2), fun s cs F hs h => cls s cs F hs (v1 s _ F hs ?_), rfs, ⟨by omega, w2, ?_, ?_, fun t ht => Ty_app' (Ty_app' (g5 (true :: t) (by simp only [List.length_cons]; omega)) ⟨_, Or.inr (Or.inr (Or.inr (Or.inr (Or.inr (Or.inr ⟨hcd.2.2.1, hcd.2.2.2, rfl, _, rfl, rfl⟩))))), rfl⟩) (w5 t ht)⟩, v4⟩
            · rw [← List.append_assoc, ← List.append_assoc] at h
              exact h
            · rw [tr_app, tr_app, List.length_append, List.length_append, tr_s hcd.2.1, show ([tok cd 0] : List Int32).length = 1 from rfl]
              omega
            · rw [List.length_append, List.length_append, show ([(cd, 0)] : Cds).length = 1 from rfl]
              omega
      · exact stop j o hj he hjw
  intro i hi him o ho
  obtain ⟨r1, u1, u2, u3, u4⟩ := sub i hi him o ho
  match r1, u1, u2, u3, u4 with
  | .inr (e, p), u1, u2, u3, u4 =>
    refine ⟨.inr (e, p), fun s cs hs => u1 s cs (t1 o s hs), fun D hD M cs hR h24 hl => ?_, u3, trivial⟩
    obtain ⟨d, rfl⟩ : ∃ d, D = d + 1 := ⟨D - 1, by omega⟩
    obtain ⟨M1, p1, p2, p3⟩ := u2 d (by omega) M cs hR h24 hl
    exact ⟨M1, h0 ⟨_, _, p1, fun z => absurd rfl z, fun _ => ⟨isB0, rfl, rfl⟩⟩, p2, p3⟩
  | .inl (j, nw), u1, u2, u3, u4 =>
    obtain ⟨g1, g2, g3, g4, g5⟩ := u3
    obtain ⟨r2, v1, v2, v3, v4⟩ := tail (m - j) j o (Nat.le_refl _) (by omega) g2 ho u4
    have rfs : RfO X b n m (KS + 1) mE i o (rP nw r2) := by
      intro D hD M cs hR h24 hl
      obtain ⟨d, rfl⟩ : ∃ d, D = d + 1 := ⟨D - 1, by omega⟩
      obtain ⟨M1, p1, p2, p3⟩ := u2 d (by omega) M cs hR h24 hl
      obtain ⟨M', f1, f2, f3⟩ := v2 d (by omega) M1 (cs ++ nw) p3.1 p3.2 (by rw [List.length_append]; omega)
      exact ⟨M', h0 ⟨_, _, p1, fun _ => f3 _ ⟨by rw [okB_pre], rfl⟩, fun z => absurd z n10⟩, k3_trans p2 f1, rs_and (P := fun j l => RL M' b n m j l) f2⟩
    match r2, v1, v3, v4, rfs with
    | .inr z, v1, v3, v4, rfs => exact ⟨.inr z, fun s cs hs => u1 s cs _ (t1 o s hs) (v1 s _ hs), rfs, v3, trivial⟩
    | .inl (j2, nw2), v1, v3, v4, rfs =>
      obtain ⟨w1, w2, w3, w4, w5⟩ := v3
      refine ⟨.inl (j2, nw ++ nw2), fun s cs F hs h => u1 s cs F (t1 o s hs) (v1 s _ F hs ?_), rfs, ⟨by omega, w2, ?_, ?_, fun t ht => Ty_app' (g5 t (by omega)) (w5 t (by omega))⟩, v4⟩
      · rw [← List.append_assoc] at h
        exact h
      · rw [tr_app, List.length_append]
        omega
      · rw [List.length_append]
        omega
