/-! text of the law: the reference's -/
theorem SgR_of {W : Nat → Int32} : ∀ {cv pre post cs : Cds}, cs = pre ++ cv ++ post → (∀ (q s v : Nat), cs[q]? = some (s, v) → W (1309 + 2 * q) = iN s ∧ ((s = 0 ∨ s = 26) → W (1309 + 2 * q + 1) = iN v)) → SgR W pre.length cv
  | [], pre, post, cs, _, _ => trivial
  | (s, v) :: cv, pre, post, cs, hc, h => by
    have hq : cs[pre.length]? = some (s, v) := by
      rw [hc, List.append_assoc, List.getElem?_append_right (Nat.le_refl _), Nat.sub_self]
      rfl
    obtain ⟨a1, a2⟩ := h pre.length s v hq
    refine ⟨a1, a2, ?_⟩
    have h2 := SgR_of (cv := cv) (pre := pre ++ [(s, v)]) (post := post) (cs := cs) (by rw [hc]; simp only [List.append_assoc, List.cons_append, List.nil_append]) h
    rw [List.length_append] at h2
    exact h2
abbrev P2P : Nat → Nat → Nat → Prop := fun c a j => c = 100 ∧ a = 0 ∧ (j = 12 ∨ j = 17 ∨ j = 18 ∨ j = 19 ∨ j = 20 ∨ j = 21 ∨ j = 23 ∨ j = 25)
theorem TpM.k' {M M2 : Mem} {b : Nat → Nat} {n : Nat} {P : Nat → Nat → Nat → Prop} (h : TpM M b n) (k : K3 P M M2) (h1 : ¬ P 100 0 16) (h2 : ∀ j, ¬ P 108 0 j) : TpM M2 b n := h.k k h1 h2
theorem pre200 {X : Cx} {f : Nat} {M : Mem} {b : Nat → Nat} {n k : Nat} (hX : StrOk X) (hk : k ≤ 3) (h : TpM M b n) : ∃ M7, RS M7 b n k 0 ∧ M7.1 100 0 23 = 0 ∧ M7.1 100 0 25 = -1 ∧ K3 P2P M M7 ∧ ∀ Q : Option Vl → Mem → Prop, ((¬ iN k = 0 → ∃ (r2 : Int32) (M8 : Mem), CC X (f + 40) 196 [vR 100 0] M7 (some (vI r2)) M8 ∧ ∀ M9, M9 = st M8 100 0 16 0 → (r2 = 0 → ∀ M10, M10 = st M9 100 0 23 (M9.1 100 0 21) → ∀ M11, M11 = st M10 100 0 25 (M10.1 100 0 22) → Q (some (vI (-1))) M11) ∧ (¬ r2 = 0 → ∃ (r3 : Int32) (M12 : Mem), CC X (f + 40) 199 [vR 100 0, vI (iN k)] M9 (some (vI r3)) M12 ∧ Q (some (vI r3)) M12)) ∧ (iN k = 0 → ∃ (r4 : Int32) (M13 : Mem), CC X (f + 40) 187 [vR 100 0] M7 (some (vI r4)) M13 ∧ ∀ M14, M14 = st M13 100 0 16 0 → (r4 = 0 → ∀ M15, M15 = st M14 100 0 23 (M14.1 100 0 21) → ∀ M16, M16 = st M15 100 0 25 (M15.1 100 0 22) → Q (some (vI (-1))) M16) ∧ (¬ r4 = 0 → ∃ (r5 : Int32) (M17 : Mem), CC X (f + 40) 199 [vR 100 0, vI (iN k)] M14 (some (vI r5)) M17 ∧ Q (some (vI r5)) M17))) → V X (f + 41) 200 0 [some (vR 100 0), some (vI (iN k)), none] [] M Q := by
  have k6 : K3 P2P M (st (st (st (st (st M 100 0 23 0) 100 0 25 (-1)) 100 0 21 0) 100 0 17 0) 100 0 12 (iN k)) := k3_trans (k3_trans (k3_trans (k3_trans (k3_st (by simp [P2P])) (k3_st (by simp [P2P]))) (k3_st (by simp [P2P]))) (k3_st (by simp [P2P]))) (k3_st (by simp [P2P]))
  have h6 := h.k k6 (by simp [P2P]) (fun _ => by simp [P2P])
  obtain ⟨M7, p1, p2, p3⟩ := c175_0 (X := X) (d := f + 32) hX hk h6 st_at (by rw [st_ne3 (by omega), st_at])
  refine ⟨M7, p2, ?_, ?_, k3_trans k6 (k3_sub p3 (fun c a j z => by simp only [NxP] at z; simp only [P2P]; omega)), fun Q hQ => w200_0 (fun M1 h1 M2 h2 => ?_)⟩
  · rw [p3 100 0 23 (by simp [NxP]), st_ne3 (by omega), st_ne3 (by omega), st_ne3 (by omega), st_ne3 (by omega), st_at]
  · rw [p3 100 0 25 (by simp [NxP]), st_ne3 (by omega), st_ne3 (by omega), st_ne3 (by omega), st_at]
  · have cin := c151 (X := X) (d := f + 39) (M := M2) (v := iN k) (lo := 0) (hi := 3)
    rw [show inR (iN k) 0 3 = true from by rw [show inR (iN k) 0 3 = (decide (0 ≤ k) && decide (k ≤ 3)) from inR_d (lo := 0) (hi := 3) (by omega) (by decide) (by decide), decide_eq_true (Nat.zero_le _), decide_eq_true hk]; rfl] at cin
    refine ⟨_, _, cin, fun _ M4 h4 M5 h5 M6 h6 => ?_, fun z => absurd z n10⟩
    subst h1
    subst h2
    subst h4
    subst h5
    subst h6
    exact ⟨_, p1, hQ⟩
theorem LSr.law {M M2 : Mem} {b : Nat → Nat} {n m : Nat} {L : Lw} (hT : Tok b n m) (hL : L.length ≤ 16) (h : LSr M b n m m L) (w0 : M2.1 101 0 232 = iN L.length) (w1 : ∀ i, i < L.length → M2.1 101 0 (1245 + i) = M.1 105 0 (4 * i) ∧ M2.1 101 0 (1261 + i) = M.1 105 0 (4 * i + 1) ∧ M2.1 101 0 (1277 + i) = M.1 105 0 (4 * i + 2) ∧ M2.1 101 0 (1293 + i) = M.1 105 0 (4 * i + 3)) (w2 : ∀ x, x < 2 * (fl L).length → M2.1 101 0 (1309 + x) = M.1 106 0 x) : LawM (M2.1 101 0) L := by
  obtain ⟨⟨-, -, ⟨s1, s2⟩, -⟩, h1, h2, h3⟩ := h
  have hm := hT.1
  have hn := hT.2.1
  have hall : ∀ (q s v : Nat), (fl L)[q]? = some (s, v) → M2.1 101 0 (1309 + 2 * q) = iN s ∧ ((s = 0 ∨ s = 26) → M2.1 101 0 (1309 + 2 * q + 1) = iN v) := by
    intro q s v hq
    have hql := (List.getElem?_eq_some_iff.mp hq).1
    obtain ⟨a1, a2⟩ := s2 q s v hq
    exact ⟨by rw [w2 _ (by omega)]; exact a1, fun z => by rw [Nat.add_assoc, w2 _ (by omega)]; exact a2 z⟩
  refine ⟨w0, fun i w cv cc hi => ?_⟩
  have hil := (List.getElem?_eq_some_iff.mp hi).1
  obtain ⟨a1, a2, a3, a4⟩ := h3 i w cv cc hi
  obtain ⟨b1, b2, b3, b4⟩ := w1 i hil
  obtain ⟨rest, hr⟩ := fl_split hi
  have hlen : (fl L).length = (fl (L.take i)).length + cv.length + cc.length + rest.length := by
    rw [hr]
    simp only [List.length_append]
  rw [List.length_append] at a3
  rw [List.length_append, List.length_append] at a4
  have g1 := SgR_of (W := M2.1 101 0) (cv := cv) (pre := fl (L.take i)) (post := cc ++ rest) (cs := fl L) (by rw [hr]; simp only [List.append_assoc]) hall
  have g2 := SgR_of (W := M2.1 101 0) (cv := cc) (pre := fl (L.take i) ++ cv) (post := rest) (cs := fl L) hr hall
  rw [List.length_append] at g2
  exact ⟨by rw [b4]; exact a1, _, _, _, by rw [b1]; exact a2, by rw [b2]; exact a3, by rw [b3]; exact a4, rfl, rfl, by omega, g1, g2⟩
abbrev TyP : Nat → Nat → Nat → Prop := fun c a j => a = 0 ∧ ((c = 100 ∧ 12 ≤ j ∧ j ≤ 25) ∨ (105 ≤ c ∧ c ≤ 107))
theorem P2_t : ∀ c a j, P2P c a j → TyP c a j := fun c a j h => by simp only [P2P] at h; simp only [TyP]; omega
theorem Rw_t : ∀ c a j, RwP c a j → TyP c a j := fun c a j h => by simp only [RwP] at h; simp only [TyP]; omega
theorem Ry_t : ∀ c a j, RyP c a j → TyP c a j := fun c a j h => by simp only [RyP] at h; simp only [TyP]; omega
theorem rlaw {X : Cx} {b : Nat → Nat} {n m : Nat} {r : Rt} (hX : StrOk X) (hT : Tok b n m) (hr : rtC LawT (fun e _ => 1 ≤ e ∧ e ≤ 3) r) (u : ∀ (f : Nat) (M : Mem), LSr M b n m 0 [] → ∃ M', K3 RwP M M' ∧ rtC (fun L' => LSr M' b n m m L') (fun e p => Bad M' b n e p) r ∧ ∀ Q : Option Vl → Mem → Prop, Q (some (vI (rtB r))) M' → V X (f + 40) 187 12 [some (vR 100 0), some (vI 1)] [] M Q) (f : Nat) (M : Mem) (h : TpM M b n) : ∃ M', CC X (f + 41) 200 [vR 100 0, vI 0] M (some (vI (rtR r))) M' ∧ FtM M' b n (rtF r) ∧ M'.1 100 0 16 = 0 ∧ K3 (fun c a j => TyP c a j ∨ ((∃ L, r = .inl L) ∧ c = 101 ∧ a = 0 ∧ (j = 232 ∨ (1245 ≤ j ∧ j < 2129)))) M M' ∧ ∀ L, r = .inl L → LawM (M'.1 101 0) L := by
  have hm := hT.1
  have hn := hT.2.1
  obtain ⟨M7, a1, a2, a3, a4, a5⟩ := pre200 (X := X) (f := f) (k := 0) hX (by decide) h
  have k2 : K3 (fun c a j => c = 100 ∧ a = 0 ∧ (j = 13 ∨ j = 14)) M7 (st (st M7 100 0 13 0) 100 0 14 0) := k3_trans (k3_st (by omega)) (k3_st (by omega))
  have hS : LSr (st (st M7 100 0 13 0) 100 0 14 0) b n m 0 [] := ⟨⟨a1.k k2 (fun j hj => by omega) (fun j => by omega), Nat.zero_le _, ⟨st_at, fun q s v hq => by cases hq⟩, Nat.zero_le _⟩, Nat.le_refl _, by rw [st_ne3 (by omega), st_at]; rfl, fun k w cv cc hk => by cases hk⟩
  obtain ⟨M', z1, z2, z3⟩ := u f _ hS
  have run : CC X (f + 40) 187 [vR 100 0] M7 (some (vI (rtB r))) M' := e187 (w187_0 (fun M1 h1 M2 h2 => by
    subst h1
    subst h2
    exact z3 _ ⟨rfl, rfl⟩))
  have kk : K3 TyP M M' := k3_trans (k3_sub a4 P2_t) (k3_trans (k3_sub k2 (fun c a j z => by simp only [TyP]; omega)) (k3_sub z1 Rw_t))
  have v23 : M'.1 100 0 23 = 0 := by rw [z1 100 0 23 (by simp [RwP]), k2 100 0 23 (by omega)]; exact a2
  have v25 : M'.1 100 0 25 = -1 := by rw [z1 100 0 25 (by simp [RwP]), k2 100 0 25 (by omega)]; exact a3
  match r, hr, z2, run with
  | .inr (e, p), hr, z2, run =>
    have z2 : Bad M' b n e p := z2
    refine ⟨st (st (st M' 100 0 16 0) 100 0 23 (M'.1 100 0 21)) 100 0 25 (M'.1 100 0 22), e200 (a5 _ ⟨fun z => absurd rfl z, fun _ => ⟨_, _, run, fun M14 h14 => ⟨fun _ M15 h15 M16 h16 => ⟨rfl, ?_⟩, fun z => absurd rfl z⟩⟩⟩), ⟨by rw [st_ne3 (by omega), st_at]; exact z2.1, by rw [st_at]; exact z2.2⟩, by rw [st_ne3 (by omega), st_ne3 (by omega), st_at], k3_trans (k3_sub kk (fun c a j z => Or.inl z)) (k3_trans (k3_trans (k3_st (by simp [TyP])) (k3_st (by simp [TyP]))) (k3_st (by simp [TyP]))), fun L hL => by cases hL⟩
    subst h14
    rw [st_ne3 (by omega)] at h15
    subst h15
    rw [st_ne3 (by omega), st_ne3 (by omega)] at h16
    exact h16
  | .inl L, hr, z2, run =>
    have z2 : LSr M' b n m m L := z2
    have hr : LawT L := hr
    have k16 : K3 (fun c a j => c = 100 ∧ a = 0 ∧ j = 16) M' (st M' 100 0 16 0) := k3_st ⟨rfl, rfl, rfl⟩
    obtain ⟨M2, p1, p2, p3, p4, p5⟩ := c197 (X := X) (d := f + 38) (M := st M' 100 0 16 0) (q := L.length) (s := (fl L).length) hr.1 (by have := z2.2.1; omega) (by rw [st_ne3 (by omega)]; exact z2.2.2.1) (by rw [st_ne3 (by omega)]; exact z2.1.2.2.1.1)
    refine ⟨M2, e200 (a5 _ ⟨fun z => absurd rfl z, fun _ => ⟨_, _, run, fun M14 h14 => ⟨fun z => absurd z n10, fun _ => ⟨_, M2, ?_, rfl, rfl⟩⟩⟩⟩), ⟨by rw [p5 100 0 23 (by omega), st_ne3 (by omega)]; exact v23, by rw [p5 100 0 25 (by omega), st_ne3 (by omega)]; exact v25⟩, by rw [p5 100 0 16 (by omega), st_at], k3_trans (k3_sub kk (fun c a j z => Or.inl z)) (k3_trans (k3_st (by simp [TyP])) (k3_sub p5 (fun c a j z => Or.inr ⟨⟨L, rfl⟩, z⟩))), fun L' hL' => ?_⟩
    · subst h14
      exact e199 (w199_0 ⟨fun z => absurd rfl z, fun _ => ⟨_, _, p1, rfl, rfl⟩⟩)
    · injection hL' with hL'
      subst hL'
      exact z2.law hT hr.1 p2 (fun i hi => by obtain ⟨o1, o2, o3, o4⟩ := p3 i hi; rw [st_ne3 (fun z => absurd z.1 (by decide))] at o1 o2 o3 o4; exact ⟨o1, o2, o3, o4⟩) (fun x hx => by rw [p4 x hx, st_ne3 (fun z => absurd z.1 (by decide))])
