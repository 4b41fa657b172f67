/-! what waits: the class's stack -/
abbrev CdP : Nat → Nat → Nat → Prop := fun c a j => (c = 3 ∧ a = 0 ∧ (j = 9 ∨ j = 10 ∨ j = 11 ∨ j = 12 ∨ j = 13 ∨ j = 14)) ∨ (c = 7 ∧ a = 0) ∨ (a = 1 ∧ ((c = 40 ∧ j = 1) ∨ c = 46))
theorem Sm_c : ∀ c a j, SmP c a j → CdP c a j := fun c a j h => by simp only [SmP] at h; simp only [CdP]; omega
theorem Sp_c : ∀ c a j, SpP c a j → CdP c a j := fun c a j h => by simp only [SpP] at h; simp only [CdP]; omega
theorem Bl_c : ∀ c a j, BlP c a j → CdP c a j := fun c a j h => by simp only [BlP] at h; simp only [CdP]; omega
theorem Em_c : ∀ c a j, (a = 1 ∧ ((c = 40 ∧ j = 1) ∨ c = 46)) → CdP c a j := fun c a j h => by simp only [CdP]; omega
def WtC (f : Nat → Int32) : List Nat → Prop
  | [] => True
  | x :: s => f s.length = iN x ∧ WtC f s
theorem WtC_upd {f : Nat → Int32} {q : Nat} {x : Int32} : ∀ {s : List Nat}, s.length ≤ q → WtC f s → WtC (upd f q x) s
  | [], _, _ => trivial
  | y :: s, hl, h => by
    simp only [List.length_cons] at hl
    exact ⟨by rw [upd_ne (by omega)]; exact h.1, WtC_upd (by omega) h.2⟩
def oc1 (x : Nat) : Nat := if x = 10016 ∨ x = 20040 then 1 else 0
def oc : List Nat → Nat
  | [] => 0
  | x :: s => oc1 x + oc s
def op1 (x : Nat) : Nat := if x = 20040 then 1 else 0
def ops : List Nat → Nat
  | [] => 0
  | x :: s => op1 x + ops s
theorem ops_le : ∀ s, ops s ≤ oc s
  | [] => Nat.le_refl _
  | x :: s => by
    have := ops_le s
    show op1 x + ops s ≤ oc1 x + oc s
    have h : op1 x ≤ oc1 x := by
      unfold op1 oc1
      split
      · rw [if_pos (by omega)]
        exact Nat.le_refl _
      · omega
    omega
def wfW : List Nat → Prop
  | [] => True
  | x :: s => (x = 10014 ∨ x = 10015 ∨ x = 10016 ∨ x = 20040) ∧ wfW s
def CQ (M : Mem) (s : List Nat) : Prop := M.1 3 0 11 = iN s.length ∧ M.1 3 0 12 = iN (oc s) ∧ WtC (M.1 7 0) s
theorem CQ.k {M M2 : Mem} {s : List Nat} {P : Nat → Nat → Nat → Prop} (h : CQ M s) (k : K3 P M M2) (h1 : ¬ P 3 0 11) (h2 : ¬ P 3 0 12) (h3 : ∀ j, ¬ P 7 0 j) : CQ M2 s := ⟨by rw [k 3 0 11 h1]; exact h.1, by rw [k 3 0 12 h2]; exact h.2.1, by rw [k3_col k h3]; exact h.2.2⟩
def ES (M : Mem) (b : Nat → Nat) (n m i : Nat) (cs : Cds) (s : List Nat) : Prop := CL M b n m i cs ∧ CQ M s ∧ (tr cs).length + s.length ≤ i ∧ wfW s ∧ s.length ≤ 32 ∧ oc s ≤ 8
theorem CA.k {M M2 : Mem} {b : Nat → Nat} {n m i w : Nat} {P : Nat → Nat → Nat → Prop} (h : CA M b n m i) (k : K3 P M M2) (h1 : ¬ P 3 0 13) (h2 : ¬ P 3 0 9) (h3 : ¬ P 3 0 10) (h4 : ¬ P 3 0 8) (h5 : ∀ j, ¬ P 5 0 j) (h6 : ∀ j, ¬ P 6 0 j) (h7 : ¬ P 40 1 1) (hw : w ≤ 32) (h11 : M2.1 3 0 11 = iN w) (h14 : ¬ P 3 0 14 := by omega) : CA M2 b n m i := by
  obtain ⟨g0, g1, g2, g3, g4, ⟨ln, g5, g5b⟩, g6, g14⟩ := h
  exact ⟨g0, by rw [k 3 0 13 h1]; exact g1, by rw [k 3 0 9 h2]; exact g2, by rw [k 3 0 10 h3]; exact g3, g4.k k h4 h5 h6, ⟨ln, g5, by rw [k 40 1 1 h7]; exact g5b⟩, ⟨w, hw, h11⟩, by rw [k 3 0 14 h14]; exact g14⟩
theorem CL.k {M M2 : Mem} {b : Nat → Nat} {n m i w : Nat} {cs : Cds} {P : Nat → Nat → Nat → Prop} (h : CL M b n m i cs) (k : K3 P M M2) (h1 : ¬ P 3 0 13) (h2 : ¬ P 3 0 9) (h3 : ¬ P 3 0 10) (h4 : ¬ P 3 0 8) (h5 : ∀ j, ¬ P 5 0 j) (h6 : ∀ j, ¬ P 6 0 j) (h7 : ¬ P 40 1 1) (h8 : ∀ j, ¬ P 46 1 j) (hw : w ≤ 32) (h11 : M2.1 3 0 11 = iN w) (h14 : ¬ P 3 0 14 := by omega) : CL M2 b n m i cs := ⟨h.1.k k h1 h2 h3 h4 h5 h6 h7 hw h11 h14, by rw [k 40 1 1 h7]; exact h.2.1, by rw [k3_col k h8]; exact h.2.2.1, h.2.2.2⟩
def ecd (x : Nat) : Nat := 10046 - x
theorem ecd_tok {x : Nat} (h : x = 10014 ∨ x = 10015 ∨ x = 10016) : iN x = tok (ecd x) 0 ∧ ecd x ≠ 26 := by
  rcases h with rfl | rfl | rfl <;> exact ⟨rfl, by decide⟩
/-- what settles -/
def stl (lim : Nat) : List Nat → Cds × List Nat
  | [] => ([], [])
  | x :: s => if lim ≤ x ∧ x ≤ 10016 then ((ecd x, 0) :: (stl lim s).1, (stl lim s).2) else ([], x :: s)
theorem iN_dec {a : Nat} (h : 1 ≤ a) : iN a - 1 = iN (a - 1) := by rw [iN_lit 1, iN_sub h]
/-- one settles -/
theorem c48_run {X : Cx} {d lim : Nat} {b : Nat → Nat} {n m i : Nat} (hT : Tok b n m) (hlim : 10014 ≤ lim) (hlim2 : lim ≤ 10016) : ∀ (s : List Nat) (c : Nat) (M : Mem) (cs : Cds), c + s.length ≤ 32 → ES M b n m i cs s → ∃ M', ES M' b n m i (cs ++ (stl lim s).1) (stl lim s).2 ∧ K3 CdP M M' ∧ ∀ Q : Option Vl → Mem → Prop, Q none M' → V X (d + 2) 48 2 [some (vR 3 0), some (vI (iN lim)), some (vI (iN c)), none] [] M Q := by
  have hm := hT.1
  have hn := hT.2.1
  intro s
  induction s with
  | nil =>
    intro c M cs hc hE
    refine ⟨M, by show ES M b n m i (cs ++ []) []; rw [List.append_nil]; exact hE, k3_refl, fun Q hQ => w48_2 ⟨fun _ => hQ, fun _ => ⟨fun _ => hQ, fun z => absurd ?_ z⟩⟩⟩
    rw [hE.2.1.1]
    decide
  | cons x s ih =>
    intro c M cs hc hE
    obtain ⟨hC, ⟨q1, q2, q3, q4⟩, hl, ⟨hx, hw⟩, hl2, ho⟩ := hE
    simp only [List.length_cons] at hc hl hl2 q1
    have e1 : iN (s.length + 1) - 1 = iN s.length := by rw [iN_dec (by omega)]; rfl
    have a1 : ¬ (400 : Nat) = 0 := by decide
    have g32 : ¬ 32 ≤ iN c := by rw [show (32 ≤ iN c) = False from nle_ (a := 32) (by decide) (by omega) (by omega)]; exact id
    have g0 : ¬ iN (s.length + 1) ≤ 0 := by rw [show (iN (s.length + 1) ≤ 0) = False from nle_ (b := 0) (by omega) (by decide) (by omega)]; exact id
    have g33 : ¬ 32 < iN (s.length + 1) := by rw [show (32 < iN (s.length + 1)) = False from nlt_ (a := 32) (by decide) (by omega) (by omega)]; exact id
    by_cases hp : lim ≤ x ∧ x ≤ 10016
    · have hx2 : x = 10014 ∨ x = 10015 ∨ x = 10016 := by omega
      obtain ⟨t1, t2⟩ := ecd_tok hx2
      have hstl : stl lim (x :: s) = ((ecd x, 0) :: (stl lim s).1, (stl lim s).2) := if_pos hp
      have gx1 : ¬ iN x < iN lim := by rw [show (iN x < iN lim) = False from nlt_ (by omega) (by omega) hp.1]; exact id
      have gx2 : iN x ≤ 10016 := (iN_le (b := 10016) (by omega) (by decide)).mpr hp.2
      have hoc : oc (x :: s) = oc1 x + oc s := rfl
      rw [hstl]
      by_cases hx3 : x = 10016
      · have ho1 : oc1 x = 1 := if_pos (Or.inl hx3)
        have k1 : K3 CdP M (st M 3 0 12 (iN (oc s))) := k3_st (by simp [CdP])
        have hC1 : CL (st M 3 0 12 (iN (oc s))) b n m i cs := hC.k (P := fun c a j => c = 3 ∧ a = 0 ∧ j = 12) (k3_st ⟨rfl, rfl, rfl⟩) (by simp) (by simp) (by simp) (by simp) (by simp) (by simp) (by simp) (by simp) (w := s.length + 1) (by omega) (by rw [st_ne3 (by omega)]; exact q1)
        obtain ⟨M1, p1, p2, p3⟩ := hC1.emit (X := X) (d := d) (s := ecd x) (v := 0) (x := iN x) hT t2 t1 (by omega)
        have v11 : M1.1 3 0 11 = iN (s.length + 1) := by rw [p3 3 0 11 (by simp), st_ne3 (by omega)]; exact q1
        have v12 : M1.1 3 0 12 = iN (oc s) := by rw [p3 3 0 12 (by simp), st_at]
        have v7 : M1.1 7 0 = M.1 7 0 := by rw [k3_col p3 (fun _ => by simp), st_ne (fun z => absurd z.1 (by decide))]
        have hE2 : ES (st M1 3 0 11 (iN s.length)) b n m i (cs ++ [(ecd x, 0)]) s := by
          refine ⟨p2.k (P := fun c a j => c = 3 ∧ a = 0 ∧ j = 11) (k3_st ⟨rfl, rfl, rfl⟩) (by simp) (by simp) (by simp) (by simp) (by simp) (by simp) (by simp) (by simp) (w := s.length) (by omega) st_at, ⟨st_at, by rw [st_ne3 (by omega)]; exact v12, by rw [st_ne (fun z => absurd z.1 (by decide)), v7]; exact q4⟩, ?_, hw, by omega, by omega⟩
          rw [tr_app, tr_s t2, List.length_append]
          show (tr cs).length + 1 + s.length ≤ i
          omega
        obtain ⟨M', f1, f2, f3⟩ := ih (c + 1) _ (cs ++ [(ecd x, 0)]) (by omega) hE2
        refine ⟨M', ?_, k3_trans k1 (k3_trans (k3_sub p3 Em_c) (k3_trans (k3_st (by simp [CdP])) f2)), fun Q hQ => w48_2 ⟨fun z => absurd z g32, fun _ => ⟨fun z => absurd z (by rw [q1]; exact g0), fun _ => ⟨fun z => absurd z (by rw [q1]; exact g33), fun _ => ?_⟩⟩⟩⟩
        · rw [List.append_assoc] at f1
          exact f1
        · rw [q1, e1, ix_of (by omega), q3, q2, hoc, ho1, show iN (1 + oc s) - 1 = iN (oc s) by rw [iN_dec (by omega)]; exact congrArg iN (by omega)]
          refine ⟨inb_of (by omega) (by decide), fun z => absurd z gx1, fun _ => ⟨fun _ => ⟨fun z => absurd (by rw [hx3]; rfl) z, fun _ M3 hM3 => ?_⟩, fun z => absurd gx2 z⟩⟩
          subst hM3
          refine ⟨_, p1, fun M5 hM5 => ?_⟩
          subst hM5
          rw [v11, e1, iN_step]
          exact f3 Q hQ
      · have ho1 : oc1 x = 0 := if_neg (by omega)
        obtain ⟨M1, p1, p2, p3⟩ := hC.emit (X := X) (d := d) (s := ecd x) (v := 0) (x := iN x) hT t2 t1 (by omega)
        have v11 : M1.1 3 0 11 = iN (s.length + 1) := by rw [p3 3 0 11 (by simp)]; exact q1
        have v12 : M1.1 3 0 12 = iN (oc s) := by rw [p3 3 0 12 (by simp), q2, hoc, ho1]; exact congrArg iN (by omega)
        have v7 : M1.1 7 0 = M.1 7 0 := by rw [k3_col p3 (fun _ => by simp)]
        have hE2 : ES (st M1 3 0 11 (iN s.length)) b n m i (cs ++ [(ecd x, 0)]) s := by
          refine ⟨p2.k (P := fun c a j => c = 3 ∧ a = 0 ∧ j = 11) (k3_st ⟨rfl, rfl, rfl⟩) (by simp) (by simp) (by simp) (by simp) (by simp) (by simp) (by simp) (by simp) (w := s.length) (by omega) st_at, ⟨st_at, by rw [st_ne3 (by omega)]; exact v12, by rw [st_ne (fun z => absurd z.1 (by decide)), v7]; exact q4⟩, ?_, hw, by omega, by omega⟩
          rw [tr_app, tr_s t2, List.length_append]
          show (tr cs).length + 1 + s.length ≤ i
          omega
        obtain ⟨M', f1, f2, f3⟩ := ih (c + 1) _ (cs ++ [(ecd x, 0)]) (by omega) hE2
        refine ⟨M', ?_, k3_trans (k3_sub p3 Em_c) (k3_trans (k3_st (by simp [CdP])) f2), fun Q hQ => w48_2 ⟨fun z => absurd z g32, fun _ => ⟨fun z => absurd z (by rw [q1]; exact g0), fun _ => ⟨fun z => absurd z (by rw [q1]; exact g33), fun _ => ?_⟩⟩⟩⟩
        · rw [List.append_assoc] at f1
          exact f1
        · rw [q1, e1, ix_of (by omega), q3]
          refine ⟨inb_of (by omega) (by decide), fun z => absurd z gx1, fun _ => ⟨fun _ => ⟨fun _ => ⟨_, p1, fun M5 hM5 => ?_⟩, fun z => absurd ((iN_inj (b := 10016) (by omega) (by decide)).mp z) hx3⟩, fun z => absurd gx2 z⟩⟩
          subst hM5
          rw [v11, e1, iN_step]
          exact f3 Q hQ
    · have hstl : stl lim (x :: s) = ([], x :: s) := if_neg hp
      rw [hstl]
      refine ⟨M, by show ES M b n m i (cs ++ []) (x :: s); rw [List.append_nil]; exact ⟨hC, ⟨q1, q2, q3, q4⟩, hl, ⟨hx, hw⟩, hl2, ho⟩, k3_refl, fun Q hQ => w48_2 ⟨fun _ => hQ, fun _ => ⟨fun _ => hQ, fun _ => ⟨fun _ => hQ, fun _ => ?_⟩⟩⟩⟩
      rw [q1, e1, ix_of (by omega), q3]
      refine ⟨inb_of (by omega) (by decide), fun _ => hQ, fun z => ⟨fun z2 => ?_, fun _ => hQ⟩⟩
      refine absurd ⟨?_, ?_⟩ hp
      · exact Nat.not_lt.mp (fun z3 => z ((iN_lt (by omega) (by omega)).mpr z3))
      · exact (iN_le (b := 10016) (by omega) (by decide)).mp z2
theorem c48 {X : Cx} {d lim : Nat} {M : Mem} {b : Nat → Nat} {n m i : Nat} {cs : Cds} {s : List Nat} (hT : Tok b n m) (hlim : 10014 ≤ lim) (hlim2 : lim ≤ 10016) (h : ES M b n m i cs s) : ∃ M', CC X (d + 2) 48 [vR 3 0, vI (iN lim)] M none M' ∧ ES M' b n m i (cs ++ (stl lim s).1) (stl lim s).2 ∧ K3 CdP M M' := by
  obtain ⟨M', f1, f2, f3⟩ := c48_run (X := X) (d := d) hT hlim hlim2 s 0 M cs (by have := h.2.2.2.2.1; omega) h
  exact ⟨M', e48 (w48_0 (f3 _ ⟨rfl, rfl⟩)), f1, f2⟩
/-! dead -/
theorem DD.k {M M2 : Mem} {b : Nat → Nat} {n m e p w : Nat} {P : Nat → Nat → Nat → Prop} (h : DD M b n m e p) (k : K3 P M M2) (h1 : ¬ P 3 0 13) (h2 : ¬ P 3 0 9) (h3 : ¬ P 3 0 14) (h4 : ¬ P 3 0 8) (h5 : ∀ j, ¬ P 5 0 j) (h6 : ∀ j, ¬ P 6 0 j) (h7 : ¬ P 40 1 1) (hw : w ≤ 32) (h11 : M2.1 3 0 11 = iN w) : DD M2 b n m e p := by
  obtain ⟨g1, g2, g3, g4, ⟨i, g5, g5b⟩, g6, ⟨ln, g7, g7b⟩, g8⟩ := h
  exact ⟨g1, g2, by rw [k 3 0 13 h1]; exact g3, by rw [k 3 0 14 h3]; exact g4, ⟨i, g5, by rw [k 3 0 9 h2]; exact g5b⟩, g6.k k h4 h5 h6, ⟨ln, g7, by rw [k 40 1 1 h7]; exact g7b⟩, ⟨w, hw, h11⟩⟩
theorem c48_dr {X : Cx} {d : Nat} {b : Nat → Nat} {n m e p : Nat} {lim : Int32} : ∀ (k c : Nat) (M : Mem), c + k = 32 → DD M b n m e p → ∃ M', DD M' b n m e p ∧ K3 CdP M M' ∧ ∀ Q : Option Vl → Mem → Prop, Q none M' → V X (d + 2) 48 2 [some (vR 3 0), some (vI lim), some (vI (iN c)), none] [] M Q := by
  intro k
  induction k with
  | zero =>
    intro c M hc h
    exact ⟨M, h, k3_refl, fun Q hQ => w48_2 ⟨fun _ => hQ, fun z => absurd ((iN_le (a := 32) (by decide) (by omega)).mpr (by omega)) z⟩⟩
  | succ k ih =>
    intro c M hc h
    obtain ⟨w, hw, h11⟩ := h.2.2.2.2.2.2.2
    have g32 : ¬ 32 ≤ iN c := by rw [show (32 ≤ iN c) = False from nle_ (a := 32) (by decide) (by omega) (by omega)]; exact id
    by_cases hw0 : w = 0
    · refine ⟨M, h, k3_refl, fun Q hQ => w48_2 ⟨fun _ => hQ, fun _ => ⟨fun _ => hQ, fun z => absurd ?_ z⟩⟩⟩
      rw [h11, hw0]
      decide
    · have e1 : iN w - 1 = iN (w - 1) := iN_dec (by omega)
      have hin : inb (iN (w - 1)) 32 := inb_of (by omega) (by decide)
      by_cases y1 : M.1 7 0 (w - 1) < lim
      · refine ⟨M, h, k3_refl, fun Q hQ => w48_2 ⟨fun _ => hQ, fun _ => ⟨fun _ => hQ, fun _ => ⟨fun _ => hQ, fun _ => ?_⟩⟩⟩⟩
        rw [h11, e1, ix_of (by omega)]
        exact ⟨hin, fun _ => hQ, fun z => absurd y1 z⟩
      · by_cases y2 : M.1 7 0 (w - 1) ≤ 10016
        · by_cases y3 : M.1 7 0 (w - 1) = 10016
          · have h1 : DD (st M 3 0 12 (M.1 3 0 12 - 1)) b n m e p := h.k (P := fun c a j => c = 3 ∧ a = 0 ∧ j = 12) (k3_st ⟨rfl, rfl, rfl⟩) (by simp) (by simp) (by simp) (by simp) (by simp) (by simp) (by simp) hw (by rw [st_ne3 (by omega)]; exact h11)
            obtain ⟨M1, p1, p2, p3⟩ := c4_s (X := X) (d := d) (x := M.1 7 0 (w - 1)) h1
            have v11 : M1.1 3 0 11 = iN w := by rw [p3 3 0 11 (by simp [SmP]), st_ne3 (by omega)]; exact h11
            have h2 : DD (st M1 3 0 11 (iN (w - 1))) b n m e p := p2.k (P := fun c a j => c = 3 ∧ a = 0 ∧ j = 11) (k3_st ⟨rfl, rfl, rfl⟩) (by simp) (by simp) (by simp) (by simp) (by simp) (by simp) (by simp) (w := w - 1) (by omega) st_at
            obtain ⟨M', f1, f2, f3⟩ := ih (c + 1) _ (by omega) h2
            refine ⟨M', f1, k3_trans (k3_st (by simp [CdP])) (k3_trans (k3_sub p3 Sm_c) (k3_trans (k3_st (by simp [CdP])) f2)), fun Q hQ => w48_2 ⟨fun z => absurd z g32, fun _ => ⟨fun z => absurd z ?_, fun _ => ⟨fun z => absurd z ?_, fun _ => ?_⟩⟩⟩⟩
            · rw [h11, show (iN w ≤ 0) = False from nle_ (b := 0) (by omega) (by decide) (by omega)]
              exact id
            · rw [h11, show (32 < iN w) = False from nlt_ (a := 32) (by decide) (by omega) (by omega)]
              exact id
            · rw [h11, e1, ix_of (by omega)]
              refine ⟨hin, fun z => absurd z y1, fun _ => ⟨fun _ => ⟨fun z => absurd y3 z, fun _ M3 hM3 => ?_⟩, fun z => absurd y2 z⟩⟩
              subst hM3
              refine ⟨_, p1, fun M5 hM5 => ?_⟩
              subst hM5
              rw [v11, e1, iN_step]
              exact f3 Q hQ
          · obtain ⟨M1, p1, p2, p3⟩ := c4_s (X := X) (d := d) (x := M.1 7 0 (w - 1)) h
            have v11 : M1.1 3 0 11 = iN w := by rw [p3 3 0 11 (by simp [SmP])]; exact h11
            have h2 : DD (st M1 3 0 11 (iN (w - 1))) b n m e p := p2.k (P := fun c a j => c = 3 ∧ a = 0 ∧ j = 11) (k3_st ⟨rfl, rfl, rfl⟩) (by simp) (by simp) (by simp) (by simp) (by simp) (by simp) (by simp) (w := w - 1) (by omega) st_at
            obtain ⟨M', f1, f2, f3⟩ := ih (c + 1) _ (by omega) h2
            refine ⟨M', f1, k3_trans (k3_sub p3 Sm_c) (k3_trans (k3_st (by simp [CdP])) f2), fun Q hQ => w48_2 ⟨fun z => absurd z g32, fun _ => ⟨fun z => absurd z ?_, fun _ => ⟨fun z => absurd z ?_, fun _ => ?_⟩⟩⟩⟩
            · rw [h11, show (iN w ≤ 0) = False from nle_ (b := 0) (by omega) (by decide) (by omega)]
              exact id
            · rw [h11, show (32 < iN w) = False from nlt_ (a := 32) (by decide) (by omega) (by omega)]
              exact id
            · rw [h11, e1, ix_of (by omega)]
              refine ⟨hin, fun z => absurd z y1, fun _ => ⟨fun _ => ⟨fun _ => ⟨_, p1, fun M5 hM5 => ?_⟩, fun z => absurd z y3⟩, fun z => absurd y2 z⟩⟩
              subst hM5
              rw [v11, e1, iN_step]
              exact f3 Q hQ
        · refine ⟨M, h, k3_refl, fun Q hQ => w48_2 ⟨fun _ => hQ, fun _ => ⟨fun _ => hQ, fun _ => ⟨fun _ => hQ, fun _ => ?_⟩⟩⟩⟩
          rw [h11, e1, ix_of (by omega)]
          exact ⟨hin, fun _ => hQ, fun _ => ⟨fun z => absurd z y2, fun _ => hQ⟩⟩
theorem c48_d {X : Cx} {d : Nat} {M : Mem} {b : Nat → Nat} {n m e p : Nat} {lim : Int32} (h : DD M b n m e p) : ∃ M', CC X (d + 2) 48 [vR 3 0, vI lim] M none M' ∧ DD M' b n m e p ∧ K3 CdP M M' := by
  obtain ⟨M', f1, f2, f3⟩ := c48_dr (X := X) (d := d) (lim := lim) 32 0 M rfl h
  exact ⟨M', e48 (w48_0 (f3 _ ⟨rfl, rfl⟩)), f1, f2⟩
theorem c47_d {X : Cx} {d : Nat} {M : Mem} {b : Nat → Nat} {n m e p : Nat} (h : DD M b n m e p) : ∃ M', CC X (d + 3) 47 [vR 3 0] M (some (vI 0)) M' ∧ DD M' b n m e p ∧ K3 CdP M M' := by
  obtain ⟨M', f1, f2, f3⟩ := c48_d (X := X) (d := d) (lim := 10014) h
  exact ⟨M', e47 (w47_0 (w47_2 ⟨fun z => absurd z (by decide), fun _ => ⟨_, _, c34_d h, fun _ => ⟨_, _, c34_d h, fun z => absurd rfl z, fun _ => ⟨_, _, c34_d h, fun _ => ⟨_, f1, fun _ => ⟨isB0, rfl, rfl⟩, fun _ => ⟨_, c37_d f2, isB0, rfl, rfl⟩⟩, fun z => absurd rfl z⟩⟩, fun z => absurd rfl z⟩⟩)), f2, f3⟩
theorem c46_d {X : Cx} {d : Nat} {M : Mem} {b : Nat → Nat} {n m e p : Nat} (hT : Tok b n m) (h : DD M b n m e p) : ∃ M', CC X (d + 2) 46 [vR 3 0] M none M' ∧ DD M' b n m e p ∧ K3 CdP M M' := by
  obtain ⟨w, hw, h11⟩ := h.2.2.2.2.2.2.2
  by_cases h32 : w = 32
  · obtain ⟨M1, p1, p2, p3⟩ := c36_d (X := X) (d := d) hT h
    exact ⟨M1, e46 (w46_0 ⟨fun _ => ⟨_, p1, rfl, rfl⟩, fun z => absurd (by rw [h11, h32]; decide) z⟩), p2, k3_sub p3 Sp_c⟩
  · have k1 : K3 (fun c a j => (c = 7 ∧ a = 0) ∨ (c = 3 ∧ a = 0 ∧ j = 11)) M (st (st M 7 0 w (M.1 3 0 10)) 3 0 11 (iN (w + 1))) := k3_trans (k3_st (Or.inl ⟨rfl, rfl⟩)) (k3_st (Or.inr ⟨rfl, rfl, rfl⟩))
    have h2 := h.k k1 (by simp) (by simp) (by simp) (by simp) (by simp) (by simp) (by simp) (w := w + 1) (by omega) st_at
    obtain ⟨M1, p1, p2, p3⟩ := c36_d (X := X) (d := d) hT h2
    refine ⟨M1, e46 (w46_0 ⟨fun z => absurd z ?_, fun _ => ?_⟩), p2, k3_trans (k3_sub k1 (fun c a j z => by simp only [CdP]; omega)) (k3_sub p3 Sp_c)⟩
    · rw [h11, show (32 ≤ iN w) = False from nle_ (a := 32) (by decide) (by omega) (by omega)]
      exact id
    · rw [h11, ix_of (by omega)]
      refine ⟨inb_of (by omega) (by decide), fun M2 hM2 M3 hM3 => ?_⟩
      subst hM2
      rw [st_ne3 (fun z => absurd z.1 (by decide)), h11, iN_step] at hM3
      subst hM3
      exact ⟨_, p1, rfl, rfl⟩
/-- one more waits -/
theorem c46 {X : Cx} {d : Nat} {M : Mem} {b : Nat → Nat} {n m i : Nat} {cs : Cds} {s : List Nat} (hT : Tok b n m) (hC : CL M b n m i cs) (h11 : M.1 3 0 11 = iN s.length) (hW : WtC (M.1 7 0) s) (h12 : M.1 3 0 12 = iN (oc (tk b n i :: s))) (hl : (tr cs).length + s.length ≤ i) (hw : wfW (tk b n i :: s)) (hs : s.length < 32) (ho : oc (tk b n i :: s) ≤ 8) : ∃ M', CC X (d + 2) 46 [vR 3 0] M none M' ∧ ES M' b n m (i + 1) cs (tk b n i :: s) ∧ K3 CdP M M' := by
  have him : i < m := tk_in hT (by have := hw.1; omega)
  have k1 : K3 (fun c a j => (c = 7 ∧ a = 0) ∨ (c = 3 ∧ a = 0 ∧ j = 11)) M (st (st M 7 0 s.length (M.1 3 0 10)) 3 0 11 (iN (s.length + 1))) := k3_trans (k3_st (Or.inl ⟨rfl, rfl⟩)) (k3_st (Or.inr ⟨rfl, rfl, rfl⟩))
  have hC2 := hC.k k1 (by simp) (by simp) (by simp) (by simp) (by simp) (by simp) (by simp) (by simp) (w := s.length + 1) (by omega) st_at
  obtain ⟨M1, p1, p2, p3⟩ := c36 (X := X) (d := d) hT hC2.1 him
  refine ⟨M1, e46 (w46_0 ⟨fun z => absurd z ?_, fun _ => ?_⟩), ⟨(hC2.w.k p2 p3).l (by have := hC.2.2.2; omega), CQ.k (P := SpP) ⟨st_at, ?_, ?_⟩ p3 (by simp [SpP]) (by simp [SpP]) (fun _ => by simp [SpP]), ?_, hw, ?_, ho⟩, k3_trans (k3_sub k1 (fun c a j z => by simp only [CdP]; omega)) (k3_sub p3 Sp_c)⟩
  · rw [h11, show (32 ≤ iN s.length) = False from nle_ (a := 32) (by decide) (by omega) (by omega)]
    exact id
  · rw [h11, ix_of (by omega)]
    refine ⟨inb_of (by omega) (by decide), fun M2 hM2 M3 hM3 => ?_⟩
    subst hM2
    rw [st_ne3 (fun z => absurd z.1 (by decide)), h11, iN_step] at hM3
    subst hM3
    exact ⟨_, p1, rfl, rfl⟩
  · rw [st_ne3 (by omega), st_ne3 (fun z => absurd z.1 (by decide))]
    exact h12
  · rw [st_ne (fun z => absurd z.1 (by decide)), st_eq]
    exact ⟨by rw [upd_at]; exact hC.1.2.2.2.1, WtC_upd (Nat.le_refl _) hW⟩
  · simp only [List.length_cons]
    omega
  · simp only [List.length_cons]
    omega
