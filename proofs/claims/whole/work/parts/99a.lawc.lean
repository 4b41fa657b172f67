/-! text of the law: the class's law -/
theorem fl_split : ∀ {L : Lw} {i w : Nat} {cv cc : Cds}, L[i]? = some (w, cv, cc) → ∃ rest, fl L = fl (L.take i) ++ cv ++ cc ++ rest
  | [], i, w, cv, cc, h => by
    rw [List.getElem?_nil] at h
    cases h
  | (w', a, c) :: L, 0, w, cv, cc, h => by
    have h : some (w', a, c) = some (w, cv, cc) := h
    injection h with h
    injection h with h1 h2
    injection h2 with h2 h3
    subst h2
    subst h3
    exact ⟨fl L, rfl⟩
  | (w', a, c) :: L, i + 1, w, cv, cc, h => by
    rw [List.getElem?_cons_succ] at h
    obtain ⟨rest, hr⟩ := fl_split h
    refine ⟨rest, ?_⟩
    show a ++ c ++ fl L = a ++ c ++ fl (L.take i) ++ cv ++ cc ++ rest
    rw [hr]
    simp only [List.append_assoc]
theorem LSc.law {M : Mem} {b : Nat → Nat} {n m : Nat} {L : Lw} (hT : Tok b n m) (h : LSc M b n m m L) : LawC M 1 L := by
  obtain ⟨⟨hA, h1, h2, h3⟩, hp, h0⟩ := h
  have hm := hT.1
  have hn := hT.2.1
  refine ⟨h0, fun i w cv cc hi => ?_⟩
  obtain ⟨a1, a2, a3, a4⟩ := hp i w cv cc hi
  obtain ⟨rest, hr⟩ := fl_split hi
  have e : tr (fl L) = tr (fl (L.take i)) ++ tr cv ++ tr cc ++ tr rest := by rw [hr, tr_app, tr_app, tr_app]
  rw [e] at h2 h3
  rw [SgC_ap, SgC_ap, SgC_ap] at h2
  simp only [List.length_append, Nat.zero_add] at h2 h3
  rw [tr_app, List.length_append] at a3
  rw [tr_app, tr_app, List.length_append, List.length_append] at a4
  exact ⟨a1, _, _, _, a2, a3, a4, rfl, rfl, by omega, h2.1.1.2, h2.1.2⟩
theorem Pr_t : ∀ c a j, PrP c a j → (RdP c a j ∨ (a = 0 ∧ ((c = 3 ∧ (j = 7 ∨ j = 8)) ∨ c = 5 ∨ c = 6))) := fun c a j h => by simp only [PrP] at h; simp only [RdP]; omega
/-- all that a text may change in the class, its law and plans apart -/
abbrev TxP : Nat → Nat → Nat → Prop := fun c a j => (a = 0 ∧ ((c = 3 ∧ 7 ≤ j ∧ j ≤ 14) ∨ (5 ≤ c ∧ c ≤ 7))) ∨ (a = 1 ∧ 40 ≤ c ∧ c < 60)
theorem Pr_x : ∀ c a j, PrP c a j → TxP c a j := fun c a j h => by simp only [PrP] at h; simp only [TxP]; omega
theorem Rd_x : ∀ c a j, RdP c a j → TxP c a j := fun c a j h => by simp only [RdP] at h; simp only [TxP]; omega
def WtR (M : Mem) : Prop := ∃ w : Nat, w ≤ 32 ∧ M.1 3 0 11 = iN w
def FtC (M : Mem) (b : Nat → Nat) (n : Nat) (z : Option (Nat × Nat)) : Prop := match z with
  | none => M.1 3 0 13 = 0 ∧ M.1 3 0 14 = -1
  | some (e, p) => M.1 3 0 13 = iN e ∧ M.1 3 0 14 = iN (ps b n p)
def FtM (M : Mem) (b : Nat → Nat) (n : Nat) (z : Option (Nat × Nat)) : Prop := match z with
  | none => M.1 100 0 23 = 0 ∧ M.1 100 0 25 = -1
  | some (e, p) => M.1 100 0 23 = iN e ∧ M.1 100 0 25 = iN (ps b n p)
def rtF : Rt → Option (Nat × Nat)
  | .inl _ => none
  | .inr z => some z
def rrF : Rr → Option (Nat × Nat)
  | .inl _ => none
  | .inr z => some z
theorem m1 {k : Nat} (h : k ≤ 16) : ¬ iN k = -1 := by
  intro z
  have h2 : (0 : Int32) ≤ iN k := (iN_le (a := 0) (by decide) (by omega)).mpr (Nat.zero_le _)
  rw [z] at h2
  exact absurd h2 (by decide)
theorem text_law {X : Cx} {b : Nat → Nat} {n m : Nat} (hX : StrOk X) (hT : Tok b n m) : ∃ r : Rt, rtC LawT (fun e _ => 1 ≤ e ∧ e ≤ 3) r ∧ (∀ (d : Nat) (M : Mem), TpC M b n → WtR M → ∃ M', CC X (d + 8) 109 [vR 2 0, vI 0] M (some (vI (rtR r))) M' ∧ FtC M' b n (rtF r) ∧ WtR M' ∧ M'.1 3 0 7 = 0 ∧ K3 (fun c a j => TxP c a j ∨ ((∃ L, r = .inl L) ∧ a = 0 ∧ 40 ≤ c ∧ c < 47)) M M' ∧ ∀ L, r = .inl L → LawC M' 0 L) ∧ (∀ (f : Nat) (M : Mem), LSr M b n m 0 [] → ∃ M', K3 RwP M M' ∧ rtC (fun L' => LSr M' b n m m L') (fun e p => Bad M' b n e p) r ∧ ∀ Q : Option Vl → Mem → Prop, Q (some (vI (rtB r))) M' → V X (f + 40) 187 12 [some (vR 100 0), some (vI 1)] [] M Q) := by
  obtain ⟨r, u1, u2, u3⟩ := law_loop hX hT (m + 1) 0 [] (by omega) (Nat.zero_le _) ⟨by decide, fun i w cv cc hi => by cases hi⟩
  refine ⟨r, u3, fun d M hC hW => ?_, u2⟩
  obtain ⟨w, hw, h11⟩ := hW
  obtain ⟨M6, a1, a2, a3, a4, a5⟩ := pre_k (X := X) (d := d) (k := 0) hX hT hC (by decide) hw h11
  obtain ⟨c1, c2', c3, c4, c5, c6⟩ := a2
  obtain ⟨M', z1, z2, z3⟩ := u1 d M6 ⟨⟨a1, c2', trivial, Nat.zero_le _⟩, (fun k w cv cc hk => by cases hk), c1⟩
  have run : CC X (d + 7) 24 [vR 3 0, vI 0] M (some (vI (rtR r))) M' := e24 (a5 _ (z3 _ ⟨rfl, rfl⟩))
  have k7 : M'.1 3 0 7 = 0 := by rw [z1 3 0 7 (by simp [RdP])]; exact a3
  have kk : K3 TxP M M' := k3_trans (k3_sub a4 Pr_x) (k3_sub z1 Rd_x)
  match r, u3, z2, run with
  | .inr (e, p), u3, z2, run =>
    have z2 : DD M' b n m e p := z2
    exact ⟨M', e109 (w109_0 ⟨_, _, run, fun z => absurd rfl z, fun _ => ⟨rfl, rfl⟩⟩), ⟨z2.2.2.1, z2.2.2.2.1⟩, z2.2.2.2.2.2.2.2, k7, k3_sub kk (fun c a j z => Or.inl z), fun L hL => by cases hL⟩
  | .inl L, u3, z2, run =>
    have z2 : LSc M' b n m m L := z2
    have u3 : LawT L := u3
    obtain ⟨M2, p1, p2, p3, p4, p5⟩ := c2 (X := X) (d := d + 6) (M := M') (a := 0) (b := 1) (by decide)
    have hA := z2.1.1
    refine ⟨M2, e109 (w109_0 ⟨_, _, run, fun _ => ⟨fun _ => ⟨_, p1, rfl, rfl⟩, fun z => absurd rfl z⟩, fun z => absurd z (m1 u3.1)⟩), ⟨by rw [p5 3 0 13 (by omega)]; exact hA.2.1, by rw [p5 3 0 14 (by omega)]; exact hA.2.2.2.2.2.2.2⟩, ?_, by rw [p5 3 0 7 (by omega)]; exact k7, k3_trans (k3_sub kk (fun c a j z => Or.inl z)) (k3_sub p5 (fun c a j z => Or.inr ⟨⟨L, rfl⟩, z⟩)), fun L' hL' => ?_⟩
    · obtain ⟨w', hw', h11'⟩ := hA.2.2.2.2.2.2.1
      exact ⟨w', hw', by rw [p5 3 0 11 (by omega)]; exact h11'⟩
    · injection hL' with hL'
      subst hL'
      exact (z2.law hT).cp u3 p2 p3 p4
