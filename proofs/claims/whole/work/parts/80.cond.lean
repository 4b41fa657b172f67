/-! the class's condition, from state to state -/
def EV (X : Cx) (b : Nat → Nat) (n m i : Nat) (s : List Nat) (cs : Cds) (F : Rs) : Prop := ∀ (d c : Nat) (M : Mem), c + 1 ≤ i → ES M b n m i cs s → ∃ M', K3 CdP M M' ∧ rsC (fun j l => CL M' b n m j l) (fun e p => DD M' b n m e p) F ∧ ∀ Q : Option Vl → Mem → Prop, Q none M' → V X (d + 5) 45 14 [some (vR 3 0), some (vI 1), some (vI (iN c)), none] [] M Q
def CVx (X : Cx) (b : Nat → Nat) (n m : Nat) (cs : Cds) (F : Rs) : Cj → Prop
  | .inl (s, j, em) => s.length ≤ 32 ∧ EV X b n m j s (cs ++ em) F
  | .inr r => F = rP cs r
def CV (X : Cx) (b : Nat → Nat) (n m j : Nat) (s : List Nat) (cs : Cds) (F : Rs) : Prop := CVx X b n m cs F (cj (tk b n) s j)
theorem CVx_pre {X : Cx} {b : Nat → Nat} {n m : Nat} {cs pre : Cds} {F : Rs} : ∀ {z : Cj}, CVx X b n m (cs ++ pre) F z → CVx X b n m cs F (cjP pre z)
  | .inl (s, j, em), h => by
    show s.length ≤ 32 ∧ EV X b n m j s (cs ++ (pre ++ em)) F
    rw [← List.append_assoc]
    exact h
  | .inr (.inl (j, em)), h => by
    show F = .inl (j, cs ++ (pre ++ em))
    rw [← List.append_assoc]
    exact h
  | .inr (.inr _), h => h
theorem CV_pop {X : Cx} {b : Nat → Nat} {n m j x : Nat} {s : List Nat} {cs : Cds} {F : Rs} (hx : x = 10016 ∨ x = 10015 ∨ (x = 10014 ∧ ¬ tk b n j = 10015)) (h : CV X b n m j s (cs ++ [(ecd x, 0)]) F) : CV X b n m j (x :: s) cs F := by
  have e : cj (tk b n) (x :: s) j = cjP [(ecd x, 0)] (cj (tk b n) s j) := by
    rw [cj_c]
    by_cases h1 : tk b n j = 20041
    · rw [if_pos h1, if_neg (by omega)]
    · rw [if_neg h1]
      by_cases h2 : isAO (tk b n j)
      · rw [if_pos h2, if_pos (by unfold isAO at h2; omega)]
      · rw [if_neg h2, if_neg (by omega)]
  unfold CV
  rw [e]
  exact CVx_pre h
theorem CV_push {X : Cx} {b : Nat → Nat} {n m j : Nat} {s : List Nat} {cs : Cds} {F : Rs} (h1 : isAO (tk b n j)) (h2 : ∀ x s', s = x :: s' → ¬ (tk b n j ≤ x ∧ x ≤ 10016)) (h3 : s.length + 1 ≤ 32) (h : EV X b n m (j + 1) (tk b n j :: s) cs F) : CV X b n m j s cs F := by
  have e : cj (tk b n) s j = .inl (tk b n j :: s, j + 1, []) := by
    match s, h2 with
    | [], _ => exact if_pos h1
    | x :: s', h2 => rw [cj_c, if_neg (by unfold isAO at h1; omega), if_pos h1, if_neg (h2 x s' rfl)]
  unfold CV
  rw [e]
  refine ⟨h3, ?_⟩
  rw [List.append_nil]
  exact h
theorem CV_close {X : Cx} {b : Nat → Nat} {n m j : Nat} {s : List Nat} {cs : Cds} {F : Rs} (h1 : tk b n j = 20041) (h : CV X b n m (j + 1) s cs F) : CV X b n m j (20040 :: s) cs F := by
  unfold CV
  rw [cj_c, if_pos h1, if_pos rfl]
  exact h
theorem CV_fail {X : Cx} {b : Nat → Nat} {n m j : Nat} {s : List Nat} {cs : Cds} (h1 : ¬ tk b n j = 20041) (h2 : ¬ isAO (tk b n j)) : CV X b n m j (20040 :: s) cs (.inr (1, j)) := by
  unfold CV
  rw [cj_c, if_neg h1, if_neg h2, if_pos rfl]
  rfl
theorem CV_end {X : Cx} {b : Nat → Nat} {n m j : Nat} {cs : Cds} (h2 : ¬ isAO (tk b n j)) : CV X b n m j [] cs (.inl (j, cs)) := by
  unfold CV
  rw [show cj (tk b n) [] j = .inr (.inl (j, [])) from if_neg h2]
  show (.inl (j, cs) : Rs) = .inl (j, cs ++ [])
  rw [List.append_nil]
theorem cjP_gt {j : Nat} {pre : Cds} : ∀ {z : Cj}, (∀ s' j' em, z = .inl (s', j', em) → j < j') → ∀ s' j' em, cjP pre z = .inl (s', j', em) → j < j'
  | .inl (s, k, em), h => by
    intro s' j' em' e
    have e : (Sum.inl (s, k, pre ++ em) : Cj) = .inl (s', j', em') := e
    injection e with e
    injection e with e1 e2
    injection e2 with e2 e3
    rw [← e2]
    exact h s k em rfl
  | .inr _, _ => by
    intro s' j' em e
    cases e
theorem cj_gt {t : Nat → Nat} : ∀ {s : List Nat} {j : Nat} (s' : List Nat) (j' : Nat) (em : Cds), cj t s j = .inl (s', j', em) → j < j'
  | [], j, s', j', em, h => by
    unfold cj at h
    split at h
    · injection h with e
      injection e with e1 e2
      injection e2 with e2 e3
      omega
    · cases h
  | x :: s, j, s', j', em, h => by
    rw [cj_c] at h
    split at h
    · split at h
      · have := cj_gt s' j' em h
        omega
      · exact cjP_gt (fun a c e => cj_gt a c e) s' j' em h
    · split at h
      · split at h
        · exact cjP_gt (fun a c e => cj_gt a c e) s' j' em h
        · injection h with e
          injection e with e1 e2
          injection e2 with e2 e3
          omega
      · split at h
        · cases h
        · exact cjP_gt (fun a c e => cj_gt a c e) s' j' em h
theorem x0_out {X : Cx} {d : Nat} {M : Mem} {c : Int32} {Q : Option Vl → Mem → Prop} (h : Q none M) : V X (d + 1) 45 14 [some (vR 3 0), some (vI 0), some (vI c), none] [] M Q := w45_14 ⟨fun _ => h, fun _ => ⟨fun _ => h, fun z => absurd rfl z⟩⟩
theorem KV {X : Cx} {b : Nat → Nat} {n m j : Nat} {s : List Nat} {cs : Cds} {F : Rs} (hT : Tok b n m) (h : CV X b n m j s cs F) (d c : Nat) (M : Mem) (hc : c + 1 ≤ j) (hE : ES M b n m j cs s) : ∃ M', K3 CdP M M' ∧ rsC (fun j l => CL M' b n m j l) (fun e p => DD M' b n m e p) F ∧ ∀ Q : Option Vl → Mem → Prop, Q none M' → ∃ (r4 : Int32) (M13 : Mem), CC X (d + 4) 47 [vR 3 0] M (some (vI r4)) M13 ∧ V X (d + 5) 45 14 [some (vR 3 0), some (vI r4), some (vI (iN c + 1)), none] [] M13 Q := by
  have key := c47_run (X := X) (d := d + 1) hT (s.length + 1) s (Nat.lt_succ_self _) j 0 M cs (by have := ops_le s; have := hE.2.2.2.2.2; omega) hE
  have hgt := cj_gt (t := tk b n) (s := s) (j := j)
  unfold CV at h
  match hz : cj (tk b n) s j, key, h with
  | .inl (s', j', em), key, h =>
    obtain ⟨h1, h2⟩ := h
    obtain ⟨M1, p1, p2, p3⟩ := key h1
    have hj := hgt s' j' em hz
    obtain ⟨M', f1, f2, f3⟩ := h2 d (c + 1) M1 (by omega) p1
    refine ⟨M', k3_trans p2 f1, f2, fun Q hQ => ⟨_, M1, e47 (w47_0 (p3 _ ⟨rfl, rfl⟩)), ?_⟩⟩
    rw [iN_step]
    exact f3 Q hQ
  | .inr (.inl (j', em)), key, h =>
    obtain ⟨M1, p1, p2, p3⟩ := key trivial
    have h : F = .inl (j', cs ++ em) := h
    subst h
    exact ⟨M1, p2, p1, fun Q hQ => ⟨_, M1, e47 (w47_0 (p3 _ ⟨rfl, rfl⟩)), x0_out hQ⟩⟩
  | .inr (.inr z), key, h =>
    obtain ⟨M1, p1, p2, p3⟩ := key trivial
    have h : F = .inr z := h
    subst h
    exact ⟨M1, p2, p1, fun Q hQ => ⟨_, M1, e47 (w47_0 (p3 _ ⟨rfl, rfl⟩)), x0_out hQ⟩⟩
/-- a state may be passed -/
def CP (X : Cx) (b : Nat → Nat) (n m : Nat) (S : List Nat → Cds → Rs → Prop) (T : List Nat → Prop) : Rs → Prop
  | .inl (j, nw) => ∀ s cs F, T s → CV X b n m j s (cs ++ nw) F → S s cs F
  | .inr z => ∀ s cs, T s → S s cs (.inr z)
theorem ES.sm {M M2 : Mem} {b : Nat → Nat} {n m i j : Nat} {cs nw : Cds} {s : List Nat} (h : ES M b n m i cs s) (k : K3 SmP M M2) (h2 : CL M2 b n m j (cs ++ nw)) (hl : (tr nw).length ≤ j - i) (hij : i ≤ j) : ES M2 b n m j (cs ++ nw) s := by
  obtain ⟨hC, hq, hl1, hw, hl2, ho⟩ := h
  refine ⟨h2, hq.k k (by simp [SmP]) (by simp [SmP]) (fun _ => by simp [SmP]), ?_, hw, hl2, ho⟩
  rw [tr_app, List.length_append]
  omega
theorem EV_push {X : Cx} {b : Nat → Nat} {n m i : Nat} {s : List Nat} {cs : Cds} {F : Rs} (hT : Tok b n m) (h1 : tk b n i = 10016 ∨ tk b n i = 20040) (hl : s.length < 32) (ho : oc s < 8) (h : EV X b n m (i + 1) (tk b n i :: s) cs F) : EV X b n m i s cs F := by
  intro d c M hc hE
  have him : i < m := tk_in hT (by omega)
  have hm := hT.1
  have hn := hT.2.1
  obtain ⟨hC, ⟨q1, q2, q3⟩, hl1, hw, hl2, ho2⟩ := hE
  have hoc : oc (tk b n i :: s) = oc s + 1 := by
    show oc1 (tk b n i) + oc s = _
    rw [show oc1 (tk b n i) = 1 from if_pos h1]
    omega
  have hC2 : CL (st M 3 0 12 (iN (oc s + 1))) b n m i cs := hC.k (P := fun c a j => c = 3 ∧ a = 0 ∧ j = 12) (k3_st ⟨rfl, rfl, rfl⟩) (by simp) (by simp) (by simp) (by simp) (by simp) (by simp) (by simp) (by simp) (w := s.length) hl2 (by rw [st_ne3 (by omega)]; exact q1)
  obtain ⟨M3, p1, p2, p3⟩ := c46 (X := X) (d := d + 2) hT hC2 (s := s) (by rw [st_ne3 (by omega)]; exact q1) (by rw [st_ne (fun z => absurd z.1 (by decide))]; exact q3) (by rw [st_at, hoc]) hl1 ⟨by omega, hw⟩ hl (by omega)
  obtain ⟨M', f1, f2, f3⟩ := h d (c + 1) M3 (by omega) p2
  have g4 : ¬ 400 ≤ iN c := by rw [show (400 ≤ iN c) = False from nle_ (a := 400) (by decide) (by omega) (by omega)]; exact id
  have g8 : M.1 3 0 12 < 8 := by rw [q2]; exact (iN_lt (b := 8) (by omega) (by decide)).mpr ho
  have tl : ∀ Q : Option Vl → Mem → Prop, Q none M' → ∀ M2, M2 = st M 3 0 12 ((M.1 3 0 12) + 1) → ∃ (M3 : Mem), CC X (d + 4) 46 [vR 3 0] M2 none M3 ∧ V X (d + 4 + 1) 45 14 [some (vR 3 0), some (vI 1), some (vI (iN c + 1)), none] [] M3 Q := by
    intro Q hQ M2 hM2
    rw [q2, iN_step] at hM2
    subst hM2
    refine ⟨_, p1, ?_⟩
    rw [iN_step]
    exact f3 Q hQ
  refine ⟨M', k3_trans (k3_st (by simp [CdP])) (k3_trans p3 f1), f2, fun Q hQ => w45_14 ⟨fun z => absurd z g4, fun _ => ⟨fun z => absurd z n10, fun _ => ⟨fun z => absurd hC.1.2.1 z, fun _ => ⟨_, _, c34 (t := 10016) hT hC.1 (by decide), fun _ => ⟨fun _ => tl Q hQ, fun z => absurd g8 z⟩, fun z => ⟨_, _, c34 (t := 20040) hT hC.1 (by decide), fun z2 => ?_, fun _ => ⟨fun _ => tl Q hQ, fun z => absurd g8 z⟩⟩⟩⟩⟩⟩⟩
  rcases h1 with h1 | h1
  · rw [bI1 h1] at z
    exact absurd z n10
  · rw [bI1 h1] at z2
    exact absurd z2 n10
theorem EV_deep {X : Cx} {b : Nat → Nat} {n m i : Nat} {s : List Nat} {cs : Cds} (hT : Tok b n m) (h1 : tk b n i = 10016 ∨ tk b n i = 20040) (ho : oc s = 8) : EV X b n m i s cs (.inr (3, i)) := by
  intro d c M hc hE
  have him : i < m := tk_in hT (by omega)
  have hm := hT.1
  have hn := hT.2.1
  obtain ⟨hC, ⟨q1, q2, q3⟩, hl1, hw, hl2, ho2⟩ := hE
  obtain ⟨M4, p1, p2, p3⟩ := c37 (X := X) (d := d + 3) (e := 3) hT hC.1 (by decide) (by decide)
  have h5 : DD (st M4 3 0 12 (M4.1 3 0 12 + 1)) b n m 3 i := p2.k (P := fun c a j => c = 3 ∧ a = 0 ∧ j = 12) (k3_st ⟨rfl, rfl, rfl⟩) (by simp) (by simp) (by simp) (by simp) (by simp) (by simp) (by simp) (w := s.length) hl2 (by rw [st_ne3 (by omega), p3 3 0 11 (by simp [BlP])]; exact q1)
  obtain ⟨M6, s1, s2, s3⟩ := c46_d (X := X) (d := d + 2) hT h5
  have g4 : ¬ 400 ≤ iN c := by rw [show (400 ≤ iN c) = False from nle_ (a := 400) (by decide) (by omega) (by omega)]; exact id
  have g8 : ¬ M.1 3 0 12 < 8 := by rw [q2, ho]; decide
  have ne6 : ¬ M6.1 3 0 13 = 0 := by rw [s2.ne]; exact id
  have tl : ∀ Q : Option Vl → Mem → Prop, Q none M6 → ∃ (M4 : Mem), CC X (d + 4) 37 [vR 3 0, vI 3] M none M4 ∧ ∀ M5, M5 = st M4 3 0 12 ((M4.1 3 0 12) + 1) → ∃ (M6 : Mem), CC X (d + 4) 46 [vR 3 0] M5 none M6 ∧ V X (d + 4 + 1) 45 14 [some (vR 3 0), some (vI 1), some (vI (iN c + 1)), none] [] M6 Q := by
    intro Q hQ
    refine ⟨_, p1, fun M5 hM5 => ?_⟩
    subst hM5
    exact ⟨_, s1, w45_14 ⟨fun _ => hQ, fun _ => ⟨fun _ => hQ, fun _ => ⟨fun _ => hQ, fun z => absurd z ne6⟩⟩⟩⟩
  refine ⟨M6, k3_trans (k3_sub p3 Bl_c) (k3_trans (k3_st (by simp [CdP])) s3), s2, fun Q hQ => w45_14 ⟨fun z => absurd z g4, fun _ => ⟨fun z => absurd z n10, fun _ => ⟨fun z => absurd hC.1.2.1 z, fun _ => ⟨_, _, c34 (t := 10016) hT hC.1 (by decide), fun _ => ⟨fun z => absurd z g8, fun _ => tl Q hQ⟩, fun z => ⟨_, _, c34 (t := 20040) hT hC.1 (by decide), fun z2 => ?_, fun _ => ⟨fun z => absurd z g8, fun _ => tl Q hQ⟩⟩⟩⟩⟩⟩⟩
  rcases h1 with h1 | h1
  · rw [bI1 h1] at z
    exact absurd z n10
  · rw [bI1 h1] at z2
    exact absurd z2 n10
theorem EV_comp {X : Cx} {b : Nat → Nat} {n m i : Nat} {r : Rs} {T : List Nat → Prop} (hT : Tok b n m) (n1 : ¬ tk b n i = 10016) (n2 : ¬ tk b n i = 20040) (h : ∀ (d : Nat) (M : Mem) (cs : Cds), CL M b n m i cs → ∃ M', K3 SmP M M' ∧ rsC (fun j nw => CL M' b n m j (cs ++ nw)) (fun e p => DD M' b n m e p) r ∧ ∀ K : Mem → Prop, K M' → CmT X (d + 4) M K) {L : Nat} (hg : GdB m i L r) : CP X b n m (EV X b n m i) T r := by
  have hm := hT.1
  have hn := hT.2.1
  match r, h, hg with
  | .inr (e, p), h, hg =>
    intro s cs _ d c M hc hE
    have him := hE.1.1.1
    have g4 : ¬ 400 ≤ iN c := by rw [show (400 ≤ iN c) = False from nle_ (a := 400) (by decide) (by omega) (by omega)]; exact id
    obtain ⟨M1, p1, p2, p3⟩ := h d M cs hE.1
    obtain ⟨M2, q1, q2, q3⟩ := c47_d (X := X) (d := d + 1) p2
    exact ⟨M2, k3_trans (k3_sub p1 Sm_c) q3, q2, fun Q hQ => w45_14 ⟨fun z => absurd z g4, fun _ => ⟨fun z => absurd z n10, fun _ => ⟨fun z => absurd hE.1.1.2.1 z, fun _ => ⟨_, _, c34 (t := 10016) hT hE.1.1 (by decide), fun z => absurd (bI0 n1) z, fun _ => ⟨_, _, c34 (t := 20040) hT hE.1.1 (by decide), fun _ => p3 _ ⟨_, _, q1, x0_out hQ⟩, fun z => absurd (bI0 n2) z⟩⟩⟩⟩⟩⟩
  | .inl (j, nw), h, hg =>
    intro s cs F _ hV d c M hc hE
    have him := hE.1.1.1
    obtain ⟨w1, w2, w3, w4, w5⟩ := hg
    have g4 : ¬ 400 ≤ iN c := by rw [show (400 ≤ iN c) = False from nle_ (a := 400) (by decide) (by omega) (by omega)]; exact id
    obtain ⟨M1, p1, p2, p3⟩ := h d M cs hE.1
    obtain ⟨M2, q1, q2, q3⟩ := KV hT hV d c M1 (by omega) (hE.sm p1 p2 w3 (by omega))
    exact ⟨M2, k3_trans (k3_sub p1 Sm_c) q1, q2, fun Q hQ => w45_14 ⟨fun z => absurd z g4, fun _ => ⟨fun z => absurd z n10, fun _ => ⟨fun z => absurd hE.1.1.2.1 z, fun _ => ⟨_, _, c34 (t := 10016) hT hE.1.1 (by decide), fun z => absurd (bI0 n1) z, fun _ => ⟨_, _, c34 (t := 20040) hT hE.1.1 (by decide), fun _ => p3 _ (q3 Q hQ), fun z => absurd (bI0 n2) z⟩⟩⟩⟩⟩⟩
