/-! the law's text, read by both -/
def fl : Lw → Cds
  | [] => []
  | (_, cv, cc) :: L => cv ++ cc ++ fl L
theorem fl_snoc : ∀ (L : Lw) (w : Nat) (cv cc : Cds), fl (L ++ [(w, cv, cc)]) = fl L ++ cv ++ cc
  | [], w, cv, cc => by
    show cv ++ cc ++ [] = [] ++ cv ++ cc
    rw [List.append_nil, List.nil_append]
  | (w', a, c) :: L, w, cv, cc => by
    show a ++ c ++ fl (L ++ [(w, cv, cc)]) = a ++ c ++ fl L ++ cv ++ cc
    rw [fl_snoc L w cv cc]
    simp only [List.append_assoc]
def LPc (M : Mem) (L : Lw) : Prop := ∀ (k w : Nat) (cv cc : Cds), L[k]? = some (w, cv, cc) → M.1 42 1 k = iN (10010 + w) ∧ M.1 43 1 k = iN (tr (fl (L.take k))).length ∧ M.1 44 1 k = iN (tr (fl (L.take k) ++ cv)).length ∧ M.1 45 1 k = iN (tr (fl (L.take k) ++ cv ++ cc)).length
def LPr (M : Mem) (L : Lw) : Prop := ∀ (k w : Nat) (cv cc : Cds), L[k]? = some (w, cv, cc) → M.1 105 0 (4 * k + 3) = iN (20 + w) ∧ M.1 105 0 (4 * k) = iN (fl (L.take k)).length ∧ M.1 105 0 (4 * k + 1) = iN (fl (L.take k) ++ cv).length ∧ M.1 105 0 (4 * k + 2) = iN (fl (L.take k) ++ cv ++ cc).length
def LSc (M : Mem) (b : Nat → Nat) (n m i : Nat) (L : Lw) : Prop := CL M b n m i (fl L) ∧ LPc M L ∧ M.1 40 1 0 = iN L.length
def LSr (M : Mem) (b : Nat → Nat) (n m i : Nat) (L : Lw) : Prop := RL M b n m i (fl L) ∧ (fl L).length ≤ i ∧ M.1 100 0 13 = iN L.length ∧ LPr M L
theorem get_snoc {α : Type} {L : List α} {z y : α} {k : Nat} (h : (L ++ [z])[k]? = some y) : (k < L.length ∧ L[k]? = some y) ∨ (k = L.length ∧ y = z) := by
  by_cases hk : k < L.length
  · rw [List.getElem?_append_left hk] at h
    exact Or.inl ⟨hk, h⟩
  · rw [List.getElem?_append_right (by omega)] at h
    have h2 := (List.getElem?_eq_some_iff.mp h).1
    simp only [List.length_cons, List.length_nil] at h2
    have h3 : k - L.length = 0 := by omega
    rw [h3] at h
    exact Or.inr ⟨by omega, by simpa using h.symm⟩
theorem LPc.snoc {M M2 : Mem} {L : Lw} {w : Nat} {cv cc : Cds} (h : LPc M L) (k : K3 (LnP L.length) M M2) (h1 : M2.1 42 1 L.length = iN (10010 + w)) (h2 : M2.1 43 1 L.length = iN (tr (fl L)).length) (h3 : M2.1 44 1 L.length = iN (tr (fl L ++ cv)).length) (h4 : M2.1 45 1 L.length = iN (tr (fl L ++ cv ++ cc)).length) : LPc M2 (L ++ [(w, cv, cc)]) := by
  intro q w' cv' cc' hq
  rcases get_snoc hq with ⟨hl, hq⟩ | ⟨hl, hq2⟩
  · have hne : ∀ c, 42 ≤ c → c < 46 → ¬ LnP L.length c 1 q := fun c a1 a2 => by simp only [LnP]; omega
    rw [List.take_append_of_le_length (by omega), k 42 1 q (hne 42 (by decide) (by decide)), k 43 1 q (hne 43 (by decide) (by decide)), k 44 1 q (hne 44 (by decide) (by decide)), k 45 1 q (hne 45 (by decide) (by decide))]
    exact h q w' cv' cc' hq
  · subst hl
    injection hq2 with e1 e2
    injection e2 with e2 e3
    subst e1
    subst e2
    subst e3
    rw [List.take_left]
    exact ⟨h1, h2, h3, h4⟩
theorem LPr.snoc {M M2 : Mem} {L : Lw} {w : Nat} {cv cc : Cds} (h : LPr M L) (k : K3 (RlP L.length) M M2) (h1 : M2.1 105 0 (4 * L.length + 3) = iN (20 + w)) (h2 : M2.1 105 0 (4 * L.length) = iN (fl L).length) (h3 : M2.1 105 0 (4 * L.length + 1) = iN (fl L ++ cv).length) (h4 : M2.1 105 0 (4 * L.length + 2) = iN (fl L ++ cv ++ cc).length) : LPr M2 (L ++ [(w, cv, cc)]) := by
  intro q w' cv' cc' hq
  rcases get_snoc hq with ⟨hl, hq⟩ | ⟨hl, hq2⟩
  · have hne : ∀ j, 4 * q ≤ j → j < 4 * q + 4 → ¬ RlP L.length 105 0 j := fun j a1 a2 => by simp only [RlP]; omega
    rw [List.take_append_of_le_length (by omega), k 105 0 _ (hne (4 * q + 3) (by omega) (by omega)), k 105 0 _ (hne (4 * q) (by omega) (by omega)), k 105 0 _ (hne (4 * q + 1) (by omega) (by omega)), k 105 0 _ (hne (4 * q + 2) (by omega) (by omega))]
    exact h q w' cv' cc' hq
  · subst hl
    injection hq2 with e1 e2
    injection e2 with e2 e3
    subst e1
    subst e2
    subst e3
    rw [List.take_left]
    exact ⟨h1, h2, h3, h4⟩
abbrev Rt : Type := Lw ⊕ (Nat × Nat)
def rtC (post : Lw → Prop) (bad : Nat → Nat → Prop) : Rt → Prop
  | .inl L => post L
  | .inr (e, p) => bad e p
def rtR : Rt → Int32
  | .inl L => iN L.length
  | .inr _ => -1
def rtB : Rt → Int32
  | .inl _ => 1
  | .inr _ => 0
abbrev RwP : Nat → Nat → Nat → Prop := fun c a j => a = 0 ∧ ((c = 100 ∧ (j = 13 ∨ j = 14 ∨ j = 17 ∨ j = 18 ∨ j = 19 ∨ j = 20 ∨ j = 21 ∨ j = 22 ∨ j = 24)) ∨ c = 105 ∨ c = 106)
theorem Rl_w {q : Nat} : ∀ c a j, RlP q c a j → RwP c a j := fun c a j h => by simp only [RlP] at h; simp only [RwP]; omega
theorem b2_w : ∀ c a j, (c = 100 ∧ a = 0 ∧ (j = 21 ∨ j = 22)) → RwP c a j := fun c a j h => by simp only [RwP]; omega
theorem Ln_r {q : Nat} : ∀ c a j, LnP q c a j → RdP c a j := fun c a j h => by simp only [LnP] at h; simp only [RdP]; omega
theorem dead24 {X : Cx} {d : Nat} {M : Mem} {b : Nat → Nat} {n m e p : Nat} {x1 x2 : Int32} {Q : Option Vl → Mem → Prop} (h : DD M b n m e p) (hQ : Q (some (vI (-1))) M) : V X (d + 1) 24 46 [some (vR 3 0), some (vI x1), some (vI x2)] [] M Q := by
  have ne : ¬ M.1 3 0 13 = 0 := by rw [h.ne]; exact id
  exact w24_46 ⟨fun _ => ⟨fun _ => hQ, fun z => absurd z ne⟩, fun _ => ⟨fun _ => ⟨fun _ => hQ, fun z => absurd z ne⟩, fun z => absurd z ne⟩⟩
theorem law_loop {X : Cx} {b : Nat → Nat} {n m : Nat} (hX : StrOk X) (hT : Tok b n m) : ∀ (k i : Nat) (L : Lw), m - i < k → i ≤ m → LawT L → ∃ r : Rt, (∀ (d : Nat) (M : Mem), LSc M b n m i L → ∃ M', K3 RdP M M' ∧ rtC (fun L' => LSc M' b n m m L') (fun e p => DD M' b n m e p) r ∧ ∀ Q : Option Vl → Mem → Prop, Q (some (vI (rtR r))) M' → V X (d + 7) 24 46 [some (vR 3 0), some (vI 0), some (vI (iN L.length))] [] M Q) ∧ (∀ (f : Nat) (M : Mem), LSr M b n m i L → ∃ M', K3 RwP M M' ∧ rtC (fun L' => LSr M' b n m m L') (fun e p => Bad M' b n e p) r ∧ ∀ Q : Option Vl → Mem → Prop, Q (some (vI (rtB r))) M' → V X (f + 40) 187 12 [some (vR 100 0), some (vI 1)] [] M Q) ∧ rtC LawT (fun e _ => 1 ≤ e ∧ e ≤ 3) r := by
  have hm := hT.1
  have hn := hT.2.1
  intro k
  induction k with
  | zero =>
    intro i L hk
    exact absurd hk (Nat.not_lt_zero _)
  | succ k ih =>
    intro i L hk him hLT
    have hL16 := hLT.1
    have g16 : ¬ 16 < iN L.length := by rw [show (16 < iN L.length) = False from nlt_ (a := 16) (by decide) (by omega) (by omega)]; exact id
    by_cases hend : i = m
    · subst hend
      have htk := tk_ge hT (Nat.le_refl i)
      refine ⟨.inl L, fun d M hS => ⟨M, k3_refl, hS, fun Q hQ => w24_46 ⟨fun z => absurd z g16, fun _ => ⟨fun z => absurd hS.1.1.2.1 z, fun _ => ⟨_, _, c34 (t := 30001) hT hS.1.1 (by decide), fun _ => ⟨fun z => absurd hS.1.1.2.1 z, fun _ => hQ⟩, fun z => absurd z (by rw [bI1 htk]; exact n10)⟩⟩⟩⟩, fun f M hS => ⟨M, k3_refl, hS, fun Q hQ => w187_12 ⟨fun z => absurd z n10, fun _ => ⟨fun _ => ⟨isB1, hQ⟩, fun z => absurd ?_ z⟩⟩⟩, hLT⟩
      rw [hS.1.1.2.2.2.2.1, (Iff.of_eq rt_end).mpr htk]
      rfl
    · have hi : i < m := by omega
      have htk : ¬ tk b n i = 30001 := by rcases tk_lt hT hi with h | h | h | h <;> omega
      have htb := tk_b hT i
      have hrb := rt_b (k := 0) htb
      have f0 : ∀ {M : Mem} {cs : Cds}, RL M b n m i cs → ¬ M.1 100 0 18 = 0 := by
        intro M cs hR z
        rw [hR.1.2.2.2.2.1] at z
        exact htk ((Iff.of_eq rt_end).mp ((iN_inj (b := 0) (by omega) (by decide)).mp z))
      -- the class's step
      have stC : ∀ {d : Nat} {M M1 : Mem} {Q : Option Vl → Mem → Prop}, LSc M b n m i L → CC X (d + 6) 41 [vR 3 0, vI (iN L.length)] M none M1 → V X (d + 7) 24 46 [some (vR 3 0), some (vI 0), some (vI (iN (L.length + 1)))] [] M1 Q → V X (d + 7) 24 46 [some (vR 3 0), some (vI 0), some (vI (iN L.length))] [] M Q := by
        intro d M M1 Q hS h1 h2
        refine w24_46 ⟨fun z => absurd z g16, fun _ => ⟨fun z => absurd hS.1.1.2.1 z, fun _ => ⟨_, _, c34 (t := 30001) hT hS.1.1 (by decide), fun z => absurd (bI0 htk) z, fun _ => ⟨fun z => absurd rfl z, fun _ => ⟨_, h1, ?_⟩⟩⟩⟩⟩
        rw [iN_step]
        exact h2
      have stR : ∀ {f : Nat} {M M1 : Mem} {r : Int32} {Q : Option Vl → Mem → Prop}, LSr M b n m i L → CC X (f + 39) 186 [vR 100 0] M (some (vI r)) M1 → (r = 0 → Q (some (vI 0)) (st M1 100 0 13 (M1.1 100 0 13 + 0))) → (r = 1 → V X (f + 40) 187 12 [some (vR 100 0), some (vI 1)] [] (st M1 100 0 13 (M1.1 100 0 13 + 1)) Q) → (r = 0 ∨ r = 1) → V X (f + 40) 187 12 [some (vR 100 0), some (vI 1)] [] M Q := by
        intro f M M1 r Q hS h1 h2 h3 h4
        refine w187_12 ⟨fun z => absurd z n10, fun _ => ⟨fun z => absurd z (f0 hS.1), fun _ => ⟨_, _, h1, fun z M2 hM2 => ?_, fun z M3 hM3 => ?_⟩⟩⟩
        · subst hM2
          subst z
          exact w187_12 ⟨fun _ => ⟨isB0, h2 rfl⟩, fun z => absurd rfl z⟩
        · subst hM3
          have hr : r = 1 := h4.resolve_left z
          subst hr
          exact h3 rfl
      have stF : ∀ {f e p : Nat} {M M1 : Mem}, LSr M b n m i L → CC X (f + 39) 186 [vR 100 0] M (some (vI 0)) M1 → Bad M1 b n e p → K3 RwP M M1 → ∃ M', K3 RwP M M' ∧ Bad M' b n e p ∧ ∀ Q : Option Vl → Mem → Prop, Q (some (vI 0)) M' → V X (f + 40) 187 12 [some (vR 100 0), some (vI 1)] [] M Q := by
        intro f e p M M1 hS h1 h2 h3
        exact ⟨_, k3_trans h3 (k3_st (by simp [RwP])), ⟨by rw [st_ne3 (by omega)]; exact h2.1, by rw [st_ne3 (by omega)]; exact h2.2⟩, fun Q hQ => stR hS h1 (fun _ => hQ) (fun z => absurd z (by decide)) (Or.inl rfl)⟩
      by_cases hkw : 10010 ≤ tk b n i ∧ tk b n i ≤ 10012
      · have kwC : ∀ {M : Mem}, CA M b n m i → (M.1 3 0 10 = 10010 ∨ M.1 3 0 10 = 10011 ∨ M.1 3 0 10 = 10012) := by
          intro M hC
          rw [hC.2.2.2.1]
          rcases (show tk b n i = 10010 ∨ tk b n i = 10011 ∨ tk b n i = 10012 by omega) with h | h | h
          · exact Or.inl (by rw [h]; rfl)
          · exact Or.inr (Or.inl (by rw [h]; rfl))
          · exact Or.inr (Or.inr (by rw [h]; rfl))
        by_cases h16 : L.length = 16
        · refine ⟨.inr (3, i), fun d M hS => ?_, fun f M hS => ?_, by show 1 ≤ 3 ∧ 3 ≤ 3; omega⟩
          · obtain ⟨M1, p1, p2, p3⟩ := c40_f (X := X) (d := d + 3) (q := L.length) (f := true) hT hS.1.1 (by omega) (fun _ => h16)
            obtain ⟨M', f1, f2, f3⟩ := LnG_d (X := X) (d := d) (q := L.length) (x := M.1 3 0 10) hL16 p2
            exact ⟨M', k3_trans (k3_sub p3 Bl_r) (k3_sub f2 Ln_r), f1, fun Q hQ => stC hS (e41 (w41_k (kwC hS.1.1) ⟨_, p1, f3 _ ⟨rfl, rfl⟩⟩)) (dead24 f1 hQ)⟩
          · have cin := c151 (X := X) (d := f + 37) (M := M) (v := M.1 100 0 18) (lo := 20) (hi := 22)
            rw [kw_in hT hS.1.1.2.2.2.2.1, decide_eq_true hkw] at cin
            obtain ⟨M1, p1, p2, p3⟩ := c176 (X := X) (d := f + 37) (e := 3) hS.1.1
            have h13 : M.1 100 0 13 = 16 := by rw [hS.2.2.1, h16]; rfl
            exact stF hS (e186 (w186_0 ⟨_, _, cin, fun _ => ⟨fun z => absurd h13 z, fun _ => ⟨_, _, p1, isB0, rfl, rfl⟩⟩, fun z => absurd z n10⟩)) p2 (k3_sub p3 b2_w)
        · have hq : L.length < 16 := by omega
          obtain ⟨r1, u1, u2, u3⟩ := line_sim hX hT i hi hkw
          match r1, u1, u2, u3 with
          | .inr (e, p), u1, u2, u3 =>
            refine ⟨.inr (e, p), fun d M hS => ?_, fun f M hS => ?_, u3⟩
            · obtain ⟨M1, p1, p2, p3⟩ := c40 (X := X) (d := d + 3) (q := L.length) hT hS.1.1 hi hq
              obtain ⟨M', f1, f2, f3⟩ := u1 d L.length (M.1 3 0 10) M1 (fl L) hq ((hS.1.w.k p2 p3).l (by have := hS.1.2.2.2; omega))
              exact ⟨M', k3_trans (k3_sub p3 Sp_r) (k3_sub f1 Ln_r), f2, fun Q hQ => stC hS (e41 (w41_k (kwC hS.1.1) ⟨_, p1, f3 _ ⟨rfl, rfl⟩⟩)) (dead24 f2 hQ)⟩
            · obtain ⟨M1, p1, p2, p3⟩ := u2 f L.length M (fl L) hq hS.1 hS.2.2.1 hS.2.1
              exact stF hS p1 p3 (k3_sub p2 Rl_w)
          | .inl (j, cv, cc), u1, u2, u3 =>
            obtain ⟨g1, g2, g3, g4, g5⟩ := u3
            have hlen : (L ++ [(tk b n i - 10010, cv, cc)]).length = L.length + 1 := by rw [List.length_append]; rfl
            have hLT2 : LawT (L ++ [(tk b n i - 10010, cv, cc)]) := by
              refine ⟨by omega, fun q w cv' cc' hq => ?_⟩
              rcases get_snoc hq with ⟨hl, hq⟩ | ⟨hl, hq2⟩
              · exact hLT.2 q w cv' cc' hq
              · injection hq2 with e1 e2
                injection e2 with e2 e3
                exact ⟨by omega, by rw [e2]; exact g4, by rw [e3]; exact g5⟩
            obtain ⟨r, v1, v2, v3⟩ := ih j (L ++ [(tk b n i - 10010, cv, cc)]) (by omega) g2 hLT2
            refine ⟨r, fun d M hS => ?_, fun f M hS => ?_, v3⟩
            · obtain ⟨M1, p1, p2, p3⟩ := c40 (X := X) (d := d + 3) (q := L.length) hT hS.1.1 hi hq
              obtain ⟨M2, f1, ⟨a1, a2, a3, a4, a5, a6⟩, f3⟩ := u1 d L.length (M.1 3 0 10) M1 (fl L) hq ((hS.1.w.k p2 p3).l (by have := hS.1.2.2.2; omega))
              have a2' : M2.1 42 1 L.length = iN (10010 + (tk b n i - 10010)) := by rw [a2, hS.1.1.2.2.2.1]; exact congrArg iN (by omega)
              have hS2 : LSc M2 b n m j (L ++ [(tk b n i - 10010, cv, cc)]) := ⟨by rw [fl_snoc]; exact a1, hS.2.1.snoc (k3_trans (k3_sub p3 Sp_l) f1) a2' a3 a4 a5, by rw [hlen]; exact a6⟩
              obtain ⟨M', z1, z2, z3⟩ := v1 d M2 hS2
              rw [hlen] at z3
              exact ⟨M', k3_trans (k3_sub p3 Sp_r) (k3_trans (k3_sub f1 Ln_r) z1), z2, fun Q hQ => stC hS (e41 (w41_k (kwC hS.1.1) ⟨_, p1, f3 _ ⟨rfl, rfl⟩⟩)) (z3 Q hQ)⟩
            · obtain ⟨M1, p1, p2, ⟨a1, a2, a3, a4, a5⟩⟩ := u2 f L.length M (fl L) hq hS.1 hS.2.2.1 hS.2.1
              have hrt : rt 0 (tk b n i) = 20 + (tk b n i - 10010) := by
                rw [rt_w (by omega) (by omega)]
                show rt0 (tk b n i) = _
                have := rt0_c (tk b n i)
                omega
              have a2' : M1.1 105 0 (4 * L.length + 3) = iN (20 + (tk b n i - 10010)) := by rw [a2, hS.1.1.2.2.2.2.1, hrt]
              have v13 : M1.1 100 0 13 = iN L.length := by rw [p2 100 0 13 (by simp only [RlP]; omega)]; exact hS.2.2.1
              have k13 : K3 (fun c a j => c = 100 ∧ a = 0 ∧ j = 13) M1 (st M1 100 0 13 (M1.1 100 0 13 + 1)) := k3_st ⟨rfl, rfl, rfl⟩
              have hS2 : LSr (st M1 100 0 13 (M1.1 100 0 13 + 1)) b n m j (L ++ [(tk b n i - 10010, cv, cc)]) := by
                refine ⟨by rw [fl_snoc]; exact a1.k k13 (fun j hj => by omega) (fun j => by omega) (fun j => by omega), ?_, by rw [st_at, v13, iN_step, hlen], ?_⟩
                · rw [fl_snoc, List.length_append, List.length_append]
                  have := hS.2.1
                  omega
                · have hp : LPr M1 (L ++ [(tk b n i - 10010, cv, cc)]) := hS.2.2.2.snoc p2 a2' a3 a4 a5
                  intro q w cv' cc' hq
                  rw [st_ne3 (fun z => absurd z.1 (by decide)), st_ne3 (fun z => absurd z.1 (by decide)), st_ne3 (fun z => absurd z.1 (by decide)), st_ne3 (fun z => absurd z.1 (by decide))]
                  exact hp q w cv' cc' hq
              obtain ⟨M', z1, z2, z3⟩ := v2 f _ hS2
              exact ⟨M', k3_trans (k3_sub p2 Rl_w) (k3_trans (k3_st (by simp [RwP])) z1), z2, fun Q hQ => stR hS p1 (fun z => absurd z n10) (fun _ => z3 Q hQ) (Or.inr rfl)⟩
      · refine ⟨.inr (1, i), fun d M hS => ?_, fun f M hS => ?_, by show 1 ≤ 1 ∧ 1 ≤ 3; omega⟩
        · have g10 := hS.1.1.2.2.2.1
          have nk : ∀ w : Nat, (w = 10010 ∨ w = 10011 ∨ w = 10012) → ¬ M.1 3 0 10 = iN w := by
            intro w hw z
            rw [g10] at z
            have := (iN_inj (by omega) (by omega)).mp z
            omega
          obtain ⟨M1, p1, p2, p3⟩ := c40_f (X := X) (d := d + 3) (q := L.length) (f := false) hT hS.1.1 (by omega) (fun z => absurd z (by decide))
          obtain ⟨M', f1, f2, f3⟩ := LnG_d (X := X) (d := d) (q := L.length) (x := M.1 3 0 10) hL16 p2
          exact ⟨M', k3_trans (k3_sub p3 Bl_r) (k3_sub f2 Ln_r), f1, fun Q hQ => stC hS (e41 (w41_n (nk 10010 (by omega)) (nk 10011 (by omega)) (nk 10012 (by omega)) ⟨_, p1, f3 _ ⟨rfl, rfl⟩⟩)) (dead24 f1 hQ)⟩
        · have cin := c151 (X := X) (d := f + 37) (M := M) (v := M.1 100 0 18) (lo := 20) (hi := 22)
          rw [kw_in hT hS.1.1.2.2.2.2.1, decide_eq_false hkw] at cin
          obtain ⟨M1, p1, p2, p3⟩ := c176 (X := X) (d := f + 37) (e := 1) hS.1.1
          exact stF hS (e186 (w186_0 ⟨_, _, cin, fun z => absurd rfl z, fun _ => ⟨_, _, p1, isB0, rfl, rfl⟩⟩)) p2 (k3_sub p3 b2_w)
