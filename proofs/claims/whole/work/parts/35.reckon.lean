/-! the class's reckoning -/
/-- a token that is pushed -/
theorem c6_push {X : Cx} {d : Nat} {M : Mem} {a b i E n v : Nat} {y : Int32} (hi : i < E) (hE : E ≤ 400) (hn : n < 32) (hc : M.1 46 a i = iN v) (hv : v < 10010) (hy : y = if v < 10000 then iN v else M.1 12 b (v - 10000)) {Q : Option Vl → Mem → Prop}
    (hQ : V X (d + 2) 6 6 [some (vR 40 a), none, some (vI (iN E)), some (vR 12 b), some (vI (iN (n + 1))), some (vI (iN (i + 1))), none] [] (st M 47 a n y) Q) : V X (d + 2) 6 6 [some (vR 40 a), none, some (vI (iN E)), some (vR 12 b), some (vI (iN n)), some (vI (iN i)), none] [] M Q := by
  refine w6_6 ?_
  by_cases h1 : v < 10000
  · rw [if_pos h1] at hy
    subst hy
    simp only [forall_eq, true_implies, false_implies, not_true_eq_false, not_false_eq_true, and_true, true_and, and_self, isB0, isB1, bI_t0, bI_f0, i10_, i20_, i01_, i02_, i12_, i21_, nlt0 (show i < 2147483648 by omega), nle_ (a := E) (b := i) (by omega) (by omega) hi, show (400 ≤ iN i) = False from nle_ (a := 400) (by decide) (by omega) (by omega), show inb (iN i) 400 from inb_of (by omega) (by decide), ix_of (show i < 2147483648 by omega), hc, show (iN v = 10016) = False from neq_ (b := 10016) (by omega) (by decide) (by omega), nlt0 (show v < 2147483648 by omega), show (10010 ≤ iN v) = False from nle_ (a := 10010) (by decide) (by omega) (by omega), show (32 ≤ iN n) = False from nle_ (a := 32) (by decide) (by omega) (by omega), show (10000 ≤ iN v) = False from nle_ (a := 10000) (by decide) (by omega) (by omega), show inb (iN n) 32 from inb_of (by omega) (by decide), ix_of (show n < 2147483648 by omega), iN_step]
    exact hQ
  · rw [if_neg h1] at hy
    subst hy
    have e1 : iN v - 10000 = iN (v - 10000) := by
      have : v = (v - 10000) + 10000 := by omega
      conv => lhs; rw [this, ← iN_add]
      generalize iN (v - 10000) = z
      show z + 10000 - 10000 = z
      grind
    simp only [forall_eq, true_implies, false_implies, not_true_eq_false, not_false_eq_true, and_true, true_and, and_self, isB0, isB1, bI_t0, bI_f0, i10_, i20_, i01_, i02_, i12_, i21_, nlt0 (show i < 2147483648 by omega), nle_ (a := E) (b := i) (by omega) (by omega) hi, show (400 ≤ iN i) = False from nle_ (a := 400) (by decide) (by omega) (by omega), show inb (iN i) 400 from inb_of (by omega) (by decide), ix_of (show i < 2147483648 by omega), hc, show (iN v = 10016) = False from neq_ (b := 10016) (by omega) (by decide) (by omega), nlt0 (show v < 2147483648 by omega), show (10010 ≤ iN v) = False from nle_ (a := 10010) (by decide) (by omega) (by omega), show (32 ≤ iN n) = False from nle_ (a := 32) (by decide) (by omega) (by omega), show (10000 ≤ iN v) = True from yle_ (a := 10000) (by decide) (by omega) (by omega), e1, show inb (iN (v - 10000)) 10 from inb_of (by omega) (by decide), ix_of (show v - 10000 < 2147483648 by omega), show inb (iN n) 32 from inb_of (by omega) (by decide), ix_of (show n < 2147483648 by omega), iN_step]
    exact hQ
/-- a token that joins -/
theorem c6_join {X : Cx} {d : Nat} {M : Mem} {a b i E n k : Nat} {y : Int32} (hi : i < E) (hE : E ≤ 400) (hn : n < 31) (hc : M.1 46 a i = iN k) (hk : 10010 ≤ k) (hk2 : k < 2147483648) (hk3 : k ≠ 10016) (hj : CC X (d + 1) 7 [vI (iN k), vI (M.1 47 a n), vI (M.1 47 a (n + 1))] M (some (vI y)) M) {Q : Option Vl → Mem → Prop}
    (hQ : V X (d + 2) 6 6 [some (vR 40 a), none, some (vI (iN E)), some (vR 12 b), some (vI (iN (n + 1))), some (vI (iN (i + 1))), none] [] (st M 47 a n y) Q) : V X (d + 2) 6 6 [some (vR 40 a), none, some (vI (iN E)), some (vR 12 b), some (vI (iN (n + 1 + 1))), some (vI (iN i)), none] [] M Q := by
  refine w6_6 ?_
  simp only [forall_eq, true_implies, false_implies, not_true_eq_false, not_false_eq_true, and_true, true_and, and_self, isB0, isB1, bI_t0, bI_f0, i10_, i20_, i01_, i02_, i12_, i21_, nlt0 (show i < 2147483648 by omega), nle_ (a := E) (b := i) (by omega) (by omega) hi, show (400 ≤ iN i) = False from nle_ (a := 400) (by decide) (by omega) (by omega), show inb (iN i) 400 from inb_of (by omega) (by decide), ix_of (show i < 2147483648 by omega), hc, show (iN k = 10016) = False from neq_ (b := 10016) (by omega) (by decide) (by omega), nlt0 hk2, show (10010 ≤ iN k) = True from yle_ (a := 10010) (by decide) (by omega) (by omega), show (iN (n + 1 + 1) ≤ 1) = False from nle_ (b := 1) (by omega) (by decide) (by omega), iN_m1, iN_pred, show inb (iN n) 32 from inb_of (by omega) (by decide), show inb (iN (n + 1)) 32 from inb_of (by omega) (by decide), ix_of (show n < 2147483648 by omega), ix_of (show n + 1 < 2147483648 by omega), iN_step]
  exact ⟨_, _, hj, hQ⟩
theorem c6_not {X : Cx} {d : Nat} {M : Mem} {a b i E n : Nat} (hi : i < E) (hE : E ≤ 400) (hn : n < 32) (hc : M.1 46 a i = 10016) {Q : Option Vl → Mem → Prop}
    (hQ : V X (d + 2) 6 6 [some (vR 40 a), none, some (vI (iN E)), some (vR 12 b), some (vI (iN (n + 1))), some (vI (iN (i + 1))), none] [] (st M 47 a n (1 - M.1 47 a n)) Q) : V X (d + 2) 6 6 [some (vR 40 a), none, some (vI (iN E)), some (vR 12 b), some (vI (iN (n + 1))), some (vI (iN i)), none] [] M Q := by
  refine w6_6 ?_
  simp only [forall_eq, true_implies, false_implies, not_true_eq_false, not_false_eq_true, and_true, true_and, and_self, isB0, isB1, bI_t0, bI_f0, i10_, i20_, i01_, i02_, i12_, i21_, nlt0 (show i < 2147483648 by omega), nle_ (a := E) (b := i) (by omega) (by omega) hi, show (400 ≤ iN i) = False from nle_ (a := 400) (by decide) (by omega) (by omega), show inb (iN i) 400 from inb_of (by omega) (by decide), ix_of (show i < 2147483648 by omega), hc, show (iN (n + 1) ≤ 0) = False from nle_ (b := 0) (by omega) (by decide) (by omega), iN_pred, show inb (iN n) 32 from inb_of (by omega) (by decide), ix_of (show n < 2147483648 by omega), iN_step]
  exact hQ
abbrev fC (M : Mem) (b : Nat) : Nat → Int32 := fun s => M.1 12 b (s - 1)
theorem c6_one {X : Cx} {d : Nat} {M : Mem} {s v i E a b : Nat} {t t1 : List Bool} {sk : List Int32} (h : T1 s v t t1) (hv : Tv sk t) (ht : t.length ≤ 32) (hi : i + (tr1 s v).length ≤ E) (hE : E ≤ 400) (hs : SgC (M.1 46 a) i (tr1 s v)) (hk : Stk (M.1 47 a) sk) :
    ∃ M', Stk (M'.1 47 a) (evS (fC M b) s v sk) ∧ K3 (fun c _ _ => c = 47) M M' ∧ ∀ Q, V X (d + 2) 6 6 [some (vR 40 a), none, some (vI (iN E)), some (vR 12 b), some (vI (iN (evS (fC M b) s v sk).length)), some (vI (iN (i + (tr1 s v).length))), none] [] M' Q → V X (d + 2) 6 6 [some (vR 40 a), none, some (vI (iN E)), some (vR 12 b), some (vI (iN sk.length)), some (vI (iN i)), none] [] M Q := by
  have hl := Tv_len hv
  rcases h with ⟨rfl, h1, h2, rfl⟩ | ⟨h1, h2, rfl, h3, rfl⟩ | ⟨rfl, h1, h2, r, h3, rfl, rfl⟩ | ⟨rfl, rfl, r, rfl, rfl⟩ | h
  · exact ⟨st M 47 a sk.length (iN v), by rw [st_eq]; exact Stk_push hk, k3_st rfl, fun Q hQ => c6_push (v := v) hi hE (by omega) hs.1 (by omega) (by rw [if_pos (by omega)]) hQ⟩
  · have he : evS (fC M b) s 0 sk = M.1 12 b (s - 1) :: sk := by
      unfold evS
      rw [if_neg (by omega), if_pos h2]
    have et : tr1 s 0 = [iN (9999 + s)] := by
      unfold tr1 tok
      rw [if_neg (by omega), if_neg (by omega), if_pos h2]
    rw [he]
    rw [et] at hi hs ⊢
    exact ⟨st M 47 a sk.length (M.1 12 b (s - 1)), by rw [st_eq]; exact Stk_push hk, k3_st rfl, fun Q hQ => c6_push (v := 9999 + s) hi hE (by omega) hs.1 (by omega) (by rw [if_neg (by omega), show 9999 + s - 10000 = s - 1 by omega]) hQ⟩
  · obtain ⟨x, q, rfl, -, hq⟩ := Tv1 hv
    have hl2 := Tv_len hq
    have hi2 : i + 2 ≤ E := hi
    have c1 : M.1 46 a i = iN v := hs.1
    have c2 : M.1 46 a (i + 1) = 20047 := hs.2.1
    have k1 : M.1 47 a q.length = x := hk.1
    have p1 : (st M 47 a (q.length + 1) (iN v)).1 47 a q.length = x := by rw [st_ne3 (by omega)]; exact k1
    have p2 : (st M 47 a (q.length + 1) (iN v)).1 47 a (q.length + 1) = iN v := st_at
    refine ⟨st (st M 47 a (q.length + 1) (iN v)) 47 a q.length (x / iN v), ?_, k3_trans (k3_st rfl) (k3_st rfl), fun Q hQ => c6_push (v := v) (n := q.length + 1) (by omega) hE (by omega) c1 (by omega) (by rw [if_pos (by omega)]) (c6_join (n := q.length) (k := 20047) (by omega) hE (by omega) ?_ (by decide) (by decide) (by decide) ?_ hQ)⟩
    · rw [st_eq, st_eq]
      have := Stk_push (x := iN v) hk
      exact Stk_two this
    · rw [st_ne3 (fun z => absurd z.1 (by decide))]
      exact c2
    · rw [p1, p2]
      exact c7p (by rw [iN_ne0 (by omega) (by omega)]; exact not_false)
  · obtain ⟨x, q, rfl, -, hq⟩ := Tv1 hv
    have hl2 := Tv_len hq
    simp only [List.length_cons] at ht
    have k1 : M.1 47 a q.length = x := hk.1
    refine ⟨st M 47 a q.length (1 - x), by rw [st_eq]; exact Stk_top hk, k3_st rfl, fun Q hQ => c6_not (n := q.length) hi hE (by omega) hs.1 ?_⟩
    rw [k1]
    exact hQ
  · have hh : ((23 ≤ s ∧ s ≤ 25) ∨ (27 ≤ s ∧ s ≤ 29) ∨ (31 ≤ s ∧ s ≤ 32)) ∧ v = 0 ∧ ∃ b1 b2 r, t = b1 :: b2 :: r := by
      rcases h with ⟨h1, h2, h3, r, rfl, rfl⟩ | ⟨h1, h2, h3, r, rfl, rfl⟩ | ⟨h1, h2, h3, r, rfl, rfl⟩
      · exact ⟨Or.inl ⟨h1, h2⟩, h3, _, _, r, rfl⟩
      · exact ⟨Or.inr (Or.inl ⟨h1, h2⟩), h3, _, _, r, rfl⟩
      · exact ⟨Or.inr (Or.inr ⟨h1, h2⟩), h3, _, _, r, rfl⟩
    obtain ⟨hr, rfl, c1, c2, r, rfl⟩ := hh
    obtain ⟨x, q, rfl, -, hq⟩ := Tv1 hv
    obtain ⟨y, q, rfl, -, hq⟩ := Tv1 hq
    have hl2 := Tv_len hq
    simp only [List.length_cons] at ht
    have he : evS (fC M b) s 0 (x :: y :: q) = opv s y x :: q := by
      unfold evS
      rw [if_neg (by omega), if_neg (by omega)]
      show (if s = 26 then _ else if s = 30 then _ else _) = _
      rw [if_neg (by omega), if_neg (by omega)]
    have et : tr1 s 0 = [tok s 0] := by
      unfold tr1
      rw [if_neg (by omega)]
    have ek : ∃ k : Nat, tok s 0 = iN k ∧ 10010 ≤ k ∧ k < 2147483648 ∧ k ≠ 10016 := by
      rcases (show s = 23 ∨ s = 24 ∨ s = 25 ∨ s = 27 ∨ s = 28 ∨ s = 29 ∨ s = 31 ∨ s = 32 by omega) with rfl | rfl | rfl | rfl | rfl | rfl | rfl | rfl
      · exact ⟨20043, rfl, by decide, by decide, by decide⟩
      · exact ⟨20045, rfl, by decide, by decide, by decide⟩
      · exact ⟨20042, rfl, by decide, by decide, by decide⟩
      · exact ⟨20060, rfl, by decide, by decide, by decide⟩
      · exact ⟨20061, rfl, by decide, by decide, by decide⟩
      · exact ⟨20062, rfl, by decide, by decide, by decide⟩
      · exact ⟨10015, rfl, by decide, by decide, by decide⟩
      · exact ⟨10014, rfl, by decide, by decide, by decide⟩
    obtain ⟨k, hk1, hk2, hk3, hk4⟩ := ek
    rw [he]
    rw [et] at hi hs ⊢
    have s1 : M.1 47 a (q.length + 1) = x := hk.1
    have s2 : M.1 47 a q.length = y := hk.2.1
    refine ⟨st M 47 a q.length (opv s y x), by rw [st_eq]; exact Stk_two hk, k3_st rfl, fun Q hQ => c6_join (n := q.length) (k := k) hi hE (by omega) (hs.1.trans hk1) hk2 hk3 hk4 ?_ hQ⟩
    rw [s1, s2, ← hk1]
    exact c7 hr
theorem SgC_app {f : Nat → Int32} : ∀ {l r : List Int32} {i : Nat}, SgC f i (l ++ r) ↔ SgC f i l ∧ SgC f (i + l.length) r
  | [], r, i => by simp [SgC]
  | x :: l, r, i => by
    show (f i = x ∧ SgC f (i + 1) (l ++ r)) ↔ (f i = x ∧ SgC f (i + 1) l) ∧ SgC f (i + (x :: l).length) r
    rw [SgC_app, show i + (x :: l).length = i + 1 + l.length by simp only [List.length_cons]; omega, and_assoc]
theorem c6_run {X : Cx} {d a b : Nat} : ∀ (cs : Cds) (i E : Nat) (sk : List Int32) (t t' : List Bool) (M : Mem), Ty cs t t' → Tv sk t → t.length ≤ 32 → i + (tr cs).length ≤ E → E ≤ 400 → SgC (M.1 46 a) i (tr cs) → Stk (M.1 47 a) sk →
    ∃ M', Stk (M'.1 47 a) (ev (fC M b) cs sk) ∧ K3 (fun c _ _ => c = 47) M M' ∧ ∀ Q, V X (d + 2) 6 6 [some (vR 40 a), none, some (vI (iN E)), some (vR 12 b), some (vI (iN (ev (fC M b) cs sk).length)), some (vI (iN (i + (tr cs).length))), none] [] M' Q → V X (d + 2) 6 6 [some (vR 40 a), none, some (vI (iN E)), some (vR 12 b), some (vI (iN sk.length)), some (vI (iN i)), none] [] M Q
  | [], i, E, sk, t, t', M, _, _, _, _, _, _, hk => ⟨M, hk, k3_refl, fun _ h => h⟩
  | (s, v) :: cs, i, E, sk, t, t', M, hT, hv, ht, hi, hE, hs, hk => by
    obtain ⟨t1, h1, h2⟩ := hT
    have e : (tr ((s, v) :: cs)).length = (tr1 s v).length + (tr cs).length := List.length_append
    rw [e] at hi
    obtain ⟨hs1, hs2⟩ := SgC_app.mp (show SgC (M.1 46 a) i (tr1 s v ++ tr cs) from hs)
    obtain ⟨M1, k1, f1, g1⟩ := c6_one (X := X) (d := d) (b := b) h1 hv ht (by omega) hE hs1 hk
    have w1 : M1.1 46 a = M.1 46 a := k3_col f1 (fun _ => by decide)
    have w2 : M1.1 12 b = M.1 12 b := k3_col f1 (fun _ => by decide)
    obtain ⟨M2, k2, f2, g2⟩ := c6_run (X := X) (d := d) (a := a) (b := b) cs (i + (tr1 s v).length) E _ t1 t' M1 h2 (evS_ty h1 hv) (T1_len h1 ht) (by omega) hE (by rw [w1]; exact hs2) k1
    have w3 : fC M1 b = fC M b := by
      show (fun s => M1.1 12 b (s - 1)) = fun s => M.1 12 b (s - 1)
      rw [w2]
    rw [w3] at k2 g2
    refine ⟨M2, k2, k3_trans f1 f2, fun Q hQ => g1 Q (g2 Q ?_)⟩
    rw [show i + (tr1 s v).length + (tr cs).length = i + (tr ((s, v) :: cs)).length by omega]
    exact hQ
theorem c6 {X : Cx} {d : Nat} {M : Mem} {cs : Cds} {bb : Bool} {i E a b : Nat} (hT : Ty cs [] [bb]) (hi : i + (tr cs).length = E) (hE : E ≤ 400) (hs : SgC (M.1 46 a) i (tr cs)) : ∃ x M', ev (fC M b) cs [] = [x] ∧ (bb = true → x = 0 ∨ x = 1) ∧ CC X (d + 2) 6 [vR 40 a, vI (iN i), vI (iN E), vR 12 b] M (some (vI x)) M' ∧ K3 (fun c _ _ => c = 47) M M' := by
  have hv := ev_ty (fa := fC M b) hT (st := []) trivial
  obtain ⟨x, r, hx, hb, hr⟩ := Tv1 hv
  have hr0 : r = [] := by
    cases r with
    | nil => rfl
    | cons _ _ => exact hr.elim
  subst hr0
  obtain ⟨M', k, f, g⟩ := c6_run (X := X) (d := d) (a := a) (b := b) cs i E [] [] [bb] M hT trivial (by decide) (by omega) hE hs trivial
  rw [hx] at k g
  refine ⟨x, M', hx, hb, e6 (w6_0 (g _ (w6_6 ?_))), f⟩
  rw [hi]
  simp only [forall_eq, true_implies, false_implies, not_true_eq_false, not_false_eq_true, and_true, true_and, and_self, isB0, isB1, bI_t0, bI_f0, i10_, i20_, i01_, i02_, i12_, i21_, nlt0 (show E < 2147483648 by omega), yle_ (a := E) (b := E) (by omega) (by omega) (Nat.le_refl E), List.length_cons, List.length_nil, show (iN (0 + 1) ≤ 0) = False from by decide, iN_pred, show inb (iN 0) 32 from inb_l (by decide) (by decide), show ix (iN 0) = 0 from ix_l (by decide), show M'.1 47 a 0 = x from k.1]
