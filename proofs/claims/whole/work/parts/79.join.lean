/-! close and join -/
abbrev Cj : Type := (List Nat × Nat × Cds) ⊕ Rs
def cjP (pre : Cds) : Cj → Cj
  | .inl (s, j, em) => .inl (s, j, pre ++ em)
  | .inr r => .inr (rP pre r)
abbrev isAO (x : Nat) : Prop := x = 10014 ∨ x = 10015
def cj (t : Nat → Nat) : List Nat → Nat → Cj
  | [], j => if isAO (t j) then .inl ([t j], j + 1, []) else .inr (.inl (j, []))
  | x :: s, j =>
    if t j = 20041 then (if x = 20040 then cj t s (j + 1) else cjP [(ecd x, 0)] (cj t s j))
    else if isAO (t j) then (if t j ≤ x ∧ x ≤ 10016 then cjP [(ecd x, 0)] (cj t s j) else .inl (t j :: x :: s, j + 1, []))
    else (if x = 20040 then .inr (.inr (1, j)) else cjP [(ecd x, 0)] (cj t s j))
theorem cj_c {t : Nat → Nat} {x : Nat} {s : List Nat} {j : Nat} : cj t (x :: s) j = if t j = 20041 then (if x = 20040 then cj t s (j + 1) else cjP [(ecd x, 0)] (cj t s j)) else if isAO (t j) then (if t j ≤ x ∧ x ≤ 10016 then cjP [(ecd x, 0)] (cj t s j) else .inl (t j :: x :: s, j + 1, [])) else (if x = 20040 then .inr (.inr (1, j)) else cjP [(ecd x, 0)] (cj t s j)) := rfl
theorem stl_c {lim x : Nat} {s : List Nat} : stl lim (x :: s) = if lim ≤ x ∧ x ≤ 10016 then ((ecd x, 0) :: (stl lim s).1, (stl lim s).2) else ([], x :: s) := rfl
theorem cj_op {t : Nat → Nat} {j : Nat} (h : isAO (t j)) : ∀ s, cj t s j = .inl (t j :: (stl (t j) s).2, j + 1, (stl (t j) s).1)
  | [] => if_pos h
  | x :: s => by
    have h1 : ¬ t j = 20041 := by unfold isAO at h; omega
    rw [cj_c (x := x) (s := s) (j := j), stl_c]
    rw [if_neg h1, if_pos h]
    by_cases hp : t j ≤ x ∧ x ≤ 10016
    · rw [if_pos hp, if_pos hp, cj_op h s]
      rfl
    · rw [if_neg hp, if_neg hp]
theorem cjP_cjP {a : Cds} {s v : Nat} : ∀ {z : Cj}, cjP [(s, v)] (cjP a z) = cjP ((s, v) :: a) z
  | .inl (_, _, _) => rfl
  | .inr (.inl (_, _)) => rfl
  | .inr (.inr _) => rfl
theorem cj_cl {t : Nat → Nat} {j : Nat} (h : t j = 20041) : ∀ s, wfW s → cj t s j = (match (stl 10014 s).2 with | [] => .inr (.inl (j, (stl 10014 s).1)) | _ :: s' => cjP (stl 10014 s).1 (cj t s' (j + 1)))
  | [], _ => if_neg (by unfold isAO; omega)
  | x :: s, hw => by
    rw [cj_c (x := x) (s := s) (j := j), stl_c]
    rw [if_pos h]
    by_cases hx : x = 20040
    · rw [if_pos hx, if_neg (show ¬ (10014 ≤ x ∧ x ≤ 10016) by omega)]
      show cj t s (j + 1) = cjP [] (cj t s (j + 1))
      match cj t s (j + 1) with
      | .inl (_, _, _) => rfl
      | .inr (.inl (_, _)) => rfl
      | .inr (.inr _) => rfl
    · rw [if_neg hx, if_pos (show 10014 ≤ x ∧ x ≤ 10016 by have := hw.1; omega), cj_cl h s hw.2]
      show cjP [(ecd x, 0)] (match (stl 10014 s).2 with | [] => .inr (.inl (j, (stl 10014 s).1)) | _ :: s' => cjP (stl 10014 s).1 (cj t s' (j + 1))) = (match (stl 10014 s).2 with | [] => .inr (.inl (j, (ecd x, 0) :: (stl 10014 s).1)) | _ :: s' => cjP ((ecd x, 0) :: (stl 10014 s).1) (cj t s' (j + 1)))
      match (stl 10014 s).2 with
      | [] => rfl
      | _ :: s' => exact cjP_cjP
theorem cj_ot {t : Nat → Nat} {j : Nat} (h : ¬ t j = 20041) (h2 : ¬ isAO (t j)) : ∀ s, wfW s → cj t s j = (match (stl 10014 s).2 with | [] => .inr (.inl (j, (stl 10014 s).1)) | _ :: _ => .inr (.inr (1, j)))
  | [], _ => if_neg h2
  | x :: s, hw => by
    rw [cj_c (x := x) (s := s) (j := j), stl_c]
    rw [if_neg h, if_neg h2]
    by_cases hx : x = 20040
    · rw [if_pos hx, if_neg (show ¬ (10014 ≤ x ∧ x ≤ 10016) by omega)]
    · rw [if_neg hx, if_pos (show 10014 ≤ x ∧ x ≤ 10016 by have := hw.1; omega), cj_ot h h2 s hw.2]
      show cjP [(ecd x, 0)] (match (stl 10014 s).2 with | [] => .inr (.inl (j, (stl 10014 s).1)) | _ :: _ => .inr (.inr (1, j))) = (match (stl 10014 s).2 with | [] => .inr (.inl (j, (ecd x, 0) :: (stl 10014 s).1)) | _ :: _ => .inr (.inr (1, j)))
      match (stl 10014 s).2 with
      | [] => rfl
      | _ :: _ => rfl
theorem stl_top : ∀ {s : List Nat} {x : Nat} {s' : List Nat}, wfW s → (stl 10014 s).2 = x :: s' → x = 20040 ∧ s'.length < s.length ∧ ops s = ops s' + 1 ∧ oc (x :: s') = oc s' + 1
  | [], x, s', _, h => by cases h
  | y :: s, x, s', hw, h => by
    unfold stl at h
    by_cases hy : 10014 ≤ y ∧ y ≤ 10016
    · rw [if_pos hy] at h
      obtain ⟨a1, a2, a3, a4⟩ := stl_top hw.2 h
      refine ⟨a1, by simp only [List.length_cons]; omega, ?_, a4⟩
      show op1 y + ops s = _
      rw [show op1 y = 0 from if_neg (by omega)]
      omega
    · rw [if_neg hy] at h
      have h : y :: s = x :: s' := h
      injection h with e1 e2
      subst e1
      subst e2
      have hy2 : y = 20040 := by have := hw.1; omega
      refine ⟨hy2, by simp only [List.length_cons]; omega, ?_, ?_⟩
      · show op1 y + ops s = _
        rw [show op1 y = 1 from if_pos hy2]
        omega
      · show oc1 y + oc s = _
        rw [show oc1 y = 1 from if_pos (Or.inr hy2)]
        omega
theorem stl_no : ∀ {s : List Nat}, wfW s → ops s = 0 → (stl 10014 s).2 = []
  | [], _, _ => rfl
  | y :: s, hw, h => by
    have h : op1 y + ops s = 0 := h
    have hy : ¬ y = 20040 := by
      intro z
      rw [show op1 y = 1 from if_pos z] at h
      omega
    unfold stl
    rw [if_pos (show 10014 ≤ y ∧ y ≤ 10016 by have := hw.1; omega)]
    exact stl_no hw.2 (by omega)
theorem stl_wf {lim : Nat} : ∀ {s : List Nat}, wfW s → wfW (stl lim s).2
  | [], _ => trivial
  | y :: s, hw => by
    unfold stl
    by_cases hy : lim ≤ y ∧ y ≤ 10016
    · rw [if_pos hy]
      exact stl_wf hw.2
    · rw [if_neg hy]
      exact hw
def cjB : Cj → Int32
  | .inl _ => 1
  | .inr _ => 0
def cjL : Cj → Prop
  | .inl (s, _, _) => s.length ≤ 32
  | .inr _ => True
def okJ (M : Mem) (b : Nat → Nat) (n m : Nat) (cs : Cds) : Cj → Prop
  | .inl (s, j, em) => ES M b n m j (cs ++ em) s
  | .inr r => rsC (fun j em => CL M b n m j (cs ++ em)) (fun e p => DD M b n m e p) r
theorem okJ_pre {M : Mem} {b : Nat → Nat} {n m : Nat} {cs pre : Cds} : ∀ {z : Cj}, okJ M b n m (cs ++ pre) z → okJ M b n m cs (cjP pre z)
  | .inl (s, j, em), h => by
    show ES M b n m j (cs ++ (pre ++ em)) s
    rw [← List.append_assoc]
    exact h
  | .inr r, h => rs_pre (P := fun j l => CL M b n m j l) h
theorem cjB_pre {pre : Cds} : ∀ {z : Cj}, cjB (cjP pre z) = cjB z
  | .inl (_, _, _) => rfl
  | .inr _ => rfl
theorem cjL_pre {pre : Cds} : ∀ {z : Cj}, cjL (cjP pre z) → cjL z
  | .inl (_, _, _), h => h
  | .inr _, _ => trivial
theorem c47_run {X : Cx} {d : Nat} {b : Nat → Nat} {n m : Nat} (hT : Tok b n m) : ∀ (k : Nat) (s : List Nat), s.length < k → ∀ (j q : Nat) (M : Mem) (cs : Cds), q + ops s ≤ 8 → ES M b n m j cs s → cjL (cj (tk b n) s j) → ∃ M', okJ M' b n m cs (cj (tk b n) s j) ∧ K3 CdP M M' ∧ ∀ Q : Option Vl → Mem → Prop, Q (some (vI (cjB (cj (tk b n) s j)))) M' → V X (d + 3) 47 2 [some (vR 3 0), some (vI (iN q))] [] M Q := by
  have hm := hT.1
  have hn := hT.2.1
  intro k
  induction k with
  | zero =>
    intro s hk
    exact absurd hk (Nat.not_lt_zero _)
  | succ k ih =>
    intro s hk j q M cs hq hE hL
    have hC := hE.1.1
    by_cases hcl : tk b n j = 20041 ∧ q < 8
    · obtain ⟨hcl, hq8⟩ := hcl
      have hjm : j < m := tk_in hT (by omega)
      obtain ⟨M1, p1, p2, p3⟩ := c48 (X := X) (d := d) (lim := 10014) hT (by decide) (by decide) hE
      have hcj := cj_cl hcl s hE.2.2.2.1
      have g8 : ¬ 8 ≤ iN q := by rw [show (8 ≤ iN q) = False from nle_ (a := 8) (by decide) (by omega) hq8]; exact id
      match hst : (stl 10014 s).2 with
      | [] =>
        rw [hst] at hcj p2
        rw [hcj]
        refine ⟨M1, p2.1, p3, fun Q hQ => w47_2 ⟨fun z => absurd z g8, fun _ => ⟨_, _, c34 (t := 20041) hT hC (by decide), fun z => absurd z (by rw [bI1 hcl]; exact n10), fun _ => ⟨_, p1, fun z => absurd p2.2.1.1 z, fun _ => ⟨isB0, hQ⟩⟩⟩⟩⟩
      | x :: s' =>
        obtain ⟨t1, t2, t3, t4⟩ := stl_top hE.2.2.2.1 hst
        rw [hst] at hcj p2
        rw [hcj] at hL ⊢
        obtain ⟨hC1, ⟨q1, q2, q3, q4⟩, hl1, hw1, hl2, ho⟩ := p2
        simp only [List.length_cons] at hl1 hl2 q1
        have k1 : K3 (fun c a j => c = 3 ∧ a = 0 ∧ (j = 11 ∨ j = 12)) M1 (st (st M1 3 0 11 (iN s'.length)) 3 0 12 (iN (oc s'))) := k3_trans (k3_st (by omega)) (k3_st (by omega))
        have hC2 := hC1.k k1 (by simp) (by simp) (by simp) (by simp) (by simp) (by simp) (by simp) (by simp) (w := s'.length) (by omega) (by rw [st_ne3 (by omega), st_at])
        obtain ⟨M2, r1, r2, r3⟩ := c36 (X := X) (d := d + 1) hT hC2.1 hjm
        have hE2 : ES M2 b n m (j + 1) (cs ++ (stl 10014 s).1) s' := ⟨(hC2.w.k r2 r3).l (by omega), CQ.k (P := SpP) ⟨by rw [st_ne3 (by omega), st_at], st_at, by rw [st_ne (fun z => absurd z.1 (by decide)), st_ne (fun z => absurd z.1 (by decide))]; exact q4⟩ r3 (by simp [SpP]) (by simp [SpP]) (fun _ => by simp [SpP]), by omega, hw1.2, by omega, by omega⟩
        obtain ⟨M', f1, f2, f3⟩ := ih s' (by omega) (j + 1) (q + 1) M2 _ (by omega) hE2 (cjL_pre hL)
        refine ⟨M', okJ_pre f1, k3_trans p3 (k3_trans (k3_sub k1 (fun c a j z => by simp only [CdP]; omega)) (k3_trans (k3_sub r3 Sp_c) f2)), fun Q hQ => w47_2 ⟨fun z => absurd z g8, fun _ => ⟨_, _, c34 (t := 20041) hT hC (by decide), fun z => absurd z (by rw [bI1 hcl]; exact n10), fun _ => ⟨_, p1, fun _ M19 hM19 M20 hM20 => ?_, fun z => absurd z ?_⟩⟩⟩⟩
        · rw [q1, iN_dec (by omega), show s'.length + 1 - 1 = s'.length by omega] at hM19
          rw [hM19, st_ne3 (by omega), q2, t4, iN_dec (by omega), show oc s' + 1 - 1 = oc s' by omega] at hM20
          subst hM20
          refine ⟨_, r1, ?_⟩
          rw [iN_step]
          rw [cjB_pre] at hQ
          exact f3 Q hQ
        · rw [q1, show (iN (s'.length + 1) = 0) = False from neq_ (b := 0) (by omega) (by decide) (by omega)]
          exact id
    · by_cases hao : isAO (tk b n j)
      · have h1 : ¬ tk b n j = 20041 := by unfold isAO at hao; omega
        have hcj := cj_op hao s
        rw [hcj] at hL ⊢
        have hL : (stl (tk b n j) s).2.length + 1 ≤ 32 := hL
        obtain ⟨M1, p1, p2, p3⟩ := c48 (X := X) (d := d) (lim := tk b n j) hT (by unfold isAO at hao; omega) (by unfold isAO at hao; omega) hE
        have h12 : oc (tk b n j :: (stl (tk b n j) s).2) = oc (stl (tk b n j) s).2 := by
          show oc1 (tk b n j) + _ = _
          rw [show oc1 (tk b n j) = 0 from if_neg (by unfold isAO at hao; omega)]
          omega
        obtain ⟨M2, r1, r2, r3⟩ := c46 (X := X) (d := d) hT p2.1 p2.2.1.1 p2.2.1.2.2 (by rw [h12]; exact p2.2.1.2.1) p2.2.2.1 ⟨by unfold isAO at hao; omega, p2.2.2.2.1⟩ (by omega) (by rw [h12]; exact p2.2.2.2.2.2)
        have g10 : M.1 3 0 10 = iN (tk b n j) := hC.2.2.2.1
        have p1' : CC X (d + 2) 48 [vR 3 0, vI (M.1 3 0 10)] M none M1 := by rw [g10]; exact p1
        refine ⟨M2, r2, k3_trans p3 r3, fun Q hQ => ?_⟩
        have tl : ∃ (r4 : Int32) (M10 : Mem), CC X (d + 2) 34 [vR 3 0, vI 10015] M (some (vI r4)) M10 ∧ (¬ r4 = 0 → ∃ (M11 : Mem), CC X (d + 2) 48 [vR 3 0, vI (M10.1 3 0 10)] M10 none M11 ∧ ∃ (M12 : Mem), CC X (d + 2) 46 [vR 3 0] M11 none M12 ∧ isB 1 ∧ Q (some (vI 1)) M12) ∧ (r4 = 0 → ∃ (r5 : Int32) (M13 : Mem), CC X (d + 2) 34 [vR 3 0, vI 10014] M10 (some (vI r5)) M13 ∧ (r5 = 0 → ∃ (M14 : Mem), CC X (d + 2) 48 [vR 3 0, vI 10014] M13 none M14 ∧ ((M14.1 3 0 11) ≤ 0 → isB 0 ∧ Q (some (vI 0)) M14) ∧ (¬ (M14.1 3 0 11) ≤ 0 → ∃ (M15 : Mem), CC X (d + 2) 37 [vR 3 0, vI 1] M14 none M15 ∧ isB 0 ∧ Q (some (vI 0)) M15)) ∧ (¬ r5 = 0 → ∃ (M16 : Mem), CC X (d + 2) 48 [vR 3 0, vI (M13.1 3 0 10)] M13 none M16 ∧ ∃ (M17 : Mem), CC X (d + 2) 46 [vR 3 0] M16 none M17 ∧ isB 1 ∧ Q (some (vI 1)) M17)) := by
          refine ⟨_, _, c34 (t := 10015) hT hC (by decide), fun _ => ⟨_, p1', _, r1, isB1, hQ⟩, fun z => ⟨_, _, c34 (t := 10014) hT hC (by decide), fun z2 => ?_, fun _ => ⟨_, p1', _, r1, isB1, hQ⟩⟩⟩
          rcases hao with h | h
          · rw [bI1 h] at z2
            exact absurd z2 n10
          · rw [bI1 h] at z
            exact absurd z n10
        exact w47_2 ⟨fun _ => tl, fun _ => ⟨_, _, c34 (t := 20041) hT hC (by decide), fun _ => tl, fun z => absurd (bI0 h1) z⟩⟩
      · obtain ⟨M1, p1, p2, p3⟩ := c48 (X := X) (d := d) (lim := 10014) hT (by decide) (by decide) hE
        have n15 : ¬ tk b n j = 10015 := fun z => hao (Or.inr z)
        have n14 : ¬ tk b n j = 10014 := fun z => hao (Or.inl z)
        match hst : (stl 10014 s).2 with
        | [] =>
          have hcj : cj (tk b n) s j = .inr (.inl (j, (stl 10014 s).1)) := by
            by_cases h20 : tk b n j = 20041
            · rw [cj_cl h20 s hE.2.2.2.1, hst]
            · rw [cj_ot h20 hao s hE.2.2.2.1, hst]
          rw [hcj]
          rw [hst] at p2
          have p211 : M1.1 3 0 11 ≤ 0 := by rw [p2.2.1.1]; decide
          refine ⟨M1, p2.1, p3, fun Q hQ => ?_⟩
          have tl : ∃ (r4 : Int32) (M10 : Mem), CC X (d + 2) 34 [vR 3 0, vI 10015] M (some (vI r4)) M10 ∧ (¬ r4 = 0 → ∃ (M11 : Mem), CC X (d + 2) 48 [vR 3 0, vI (M10.1 3 0 10)] M10 none M11 ∧ ∃ (M12 : Mem), CC X (d + 2) 46 [vR 3 0] M11 none M12 ∧ isB 1 ∧ Q (some (vI 1)) M12) ∧ (r4 = 0 → ∃ (r5 : Int32) (M13 : Mem), CC X (d + 2) 34 [vR 3 0, vI 10014] M10 (some (vI r5)) M13 ∧ (r5 = 0 → ∃ (M14 : Mem), CC X (d + 2) 48 [vR 3 0, vI 10014] M13 none M14 ∧ ((M14.1 3 0 11) ≤ 0 → isB 0 ∧ Q (some (vI 0)) M14) ∧ (¬ (M14.1 3 0 11) ≤ 0 → ∃ (M15 : Mem), CC X (d + 2) 37 [vR 3 0, vI 1] M14 none M15 ∧ isB 0 ∧ Q (some (vI 0)) M15)) ∧ (¬ r5 = 0 → ∃ (M16 : Mem), CC X (d + 2) 48 [vR 3 0, vI (M13.1 3 0 10)] M13 none M16 ∧ ∃ (M17 : Mem), CC X (d + 2) 46 [vR 3 0] M16 none M17 ∧ isB 1 ∧ Q (some (vI 1)) M17)) :=
            ⟨_, _, c34 (t := 10015) hT hC (by decide), fun z => absurd (bI0 n15) z, fun _ => ⟨_, _, c34 (t := 10014) hT hC (by decide), fun _ => ⟨_, p1, fun _ => ⟨isB0, hQ⟩, fun z => absurd p211 z⟩, fun z => absurd (bI0 n14) z⟩⟩
          refine w47_2 ⟨fun _ => tl, fun z8 => ⟨_, _, c34 (t := 20041) hT hC (by decide), fun _ => tl, fun z => ?_⟩⟩
          by_cases h20 : tk b n j = 20041
          · exact absurd ((iN_le (a := 8) (by decide) (by omega)).mpr (by omega)) z8
          · exact absurd (bI0 h20) z
        | x :: s' =>
          obtain ⟨t1, t2, t3, t4⟩ := stl_top hE.2.2.2.1 hst
          have h20 : ¬ tk b n j = 20041 := by omega
          have hcj : cj (tk b n) s j = .inr (.inr (1, j)) := by rw [cj_ot h20 hao s hE.2.2.2.1, hst]
          rw [hcj]
          rw [hst] at p2
          have p211 : ¬ M1.1 3 0 11 ≤ 0 := by
            have hl2 := p2.2.2.2.2.1
            simp only [List.length_cons] at hl2
            rw [p2.2.1.1, List.length_cons, show (iN (s'.length + 1) ≤ 0) = False from nle_ (b := 0) (by omega) (by decide) (by omega)]
            exact id
          obtain ⟨M2, r1, r2, r3⟩ := c37 (X := X) (d := d + 1) (e := 1) hT p2.1.1 (by decide) (by decide)
          refine ⟨M2, r2, k3_trans p3 (k3_sub r3 Bl_c), fun Q hQ => ?_⟩
          have tl : ∃ (r4 : Int32) (M10 : Mem), CC X (d + 2) 34 [vR 3 0, vI 10015] M (some (vI r4)) M10 ∧ (¬ r4 = 0 → ∃ (M11 : Mem), CC X (d + 2) 48 [vR 3 0, vI (M10.1 3 0 10)] M10 none M11 ∧ ∃ (M12 : Mem), CC X (d + 2) 46 [vR 3 0] M11 none M12 ∧ isB 1 ∧ Q (some (vI 1)) M12) ∧ (r4 = 0 → ∃ (r5 : Int32) (M13 : Mem), CC X (d + 2) 34 [vR 3 0, vI 10014] M10 (some (vI r5)) M13 ∧ (r5 = 0 → ∃ (M14 : Mem), CC X (d + 2) 48 [vR 3 0, vI 10014] M13 none M14 ∧ ((M14.1 3 0 11) ≤ 0 → isB 0 ∧ Q (some (vI 0)) M14) ∧ (¬ (M14.1 3 0 11) ≤ 0 → ∃ (M15 : Mem), CC X (d + 2) 37 [vR 3 0, vI 1] M14 none M15 ∧ isB 0 ∧ Q (some (vI 0)) M15)) ∧ (¬ r5 = 0 → ∃ (M16 : Mem), CC X (d + 2) 48 [vR 3 0, vI (M13.1 3 0 10)] M13 none M16 ∧ ∃ (M17 : Mem), CC X (d + 2) 46 [vR 3 0] M16 none M17 ∧ isB 1 ∧ Q (some (vI 1)) M17)) :=
            ⟨_, _, c34 (t := 10015) hT hC (by decide), fun z => absurd (bI0 n15) z, fun _ => ⟨_, _, c34 (t := 10014) hT hC (by decide), fun _ => ⟨_, p1, fun z => absurd z p211, fun _ => ⟨_, r1, isB0, hQ⟩⟩, fun z => absurd (bI0 n14) z⟩⟩
          exact w47_2 ⟨fun _ => tl, fun _ => ⟨_, _, c34 (t := 20041) hT hC (by decide), fun _ => tl, fun z => absurd (bI0 h20) z⟩⟩
