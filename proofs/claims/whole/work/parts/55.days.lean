/-! days, both: the class's memory and the reference's, side by side -/
def mrg (C R : Mem) : Mem := (fun c a j => if c < 100 then C.1 c a j else R.1 c a j, C.2)
theorem mrg_c {C R : Mem} {c : Nat} (h : c < 100) : (mrg C R).1 c = C.1 c := by
  funext a j
  exact if_pos h
theorem mrg_r {C R : Mem} {c : Nat} (h : 100 ≤ c) : (mrg C R).1 c = R.1 c := by
  funext a j
  exact if_neg (by omega)
theorem mrg_tc {C R : Mem} {a : Nat} : TC (mrg C R) a = TC C a := TC_of (fun c _ h2 => by rw [mrg_c (by omega)])
theorem mrg_tm {C R : Mem} : TM (mrg C R) = TM R := by
  show TW ((mrg C R).1 101 0) = _
  rw [mrg_r (by decide)]
theorem k3_mc {P : Nat → Nat → Nat → Prop} {C C' R : Mem} (k : K3 P C C') : K3 P (mrg C R) (mrg C' R) := fun c a j hp => by
  by_cases h : c < 100
  · rw [mrg_c h, mrg_c h]
    exact k c a j hp
  · rw [mrg_r (by omega), mrg_r (by omega)]
theorem k3_mr {P : Nat → Nat → Nat → Prop} {C R R' : Mem} (k : K3 P R R') : K3 P (mrg C R) (mrg C R') := fun c a j hp => by
  by_cases h : c < 100
  · rw [mrg_c h, mrg_c h]
  · rw [mrg_r (by omega), mrg_r (by omega)]
    exact k c a j hp
theorem NoPast_d : NoPast Wd := by
  rintro c a j (h | h)
  · exact NoPast_m c a j h
  · simp only [Wb] at h
    omega
theorem Wd_o : ∀ c b j, Wd c b j → OpP c b j := fun c b j h => h.elim (Wm_o c b j) (Wb_o c b j)
theorem Wd_ge : ∀ c b j, Wd c b j → 100 ≤ c := by
  intro c b j h
  simp only [Wd, Wm, Wb] at h
  omega
theorem Wv_lt {a : Nat} : ∀ c b j, Wv a c b j → c < 100 := by
  intro c b j h
  simp only [Wv, Wk] at h
  omega
abbrev PC : Nat → Nat → Nat → Prop := fun c a j => OpP c a j ∧ c < 100
abbrev PR : Nat → Nat → Nat → Prop := fun c a j => OpP c a j ∧ 100 ≤ c
theorem ClM.kd {M M2 : Mem} {C : Cl} {n5 n6 n7 : Nat} (h : ClM (M.1 101 0) C) (ht : ClT C n5 n6 n7) (k : K3 PR M M2) : ClM (M2.1 101 0) C := by
  have e : ∀ j, 229 ≤ j → j < 645 → M2.1 101 0 j = M.1 101 0 j := fun j h1 h2 => k 101 0 j (fun z => no101 h1 (by omega) z.1)
  refine ⟨by rw [e _ (by decide) (by decide)]; exact h.1, fun i y p R q e2 hi => ?_⟩
  have hil : i < C.length := (List.getElem?_eq_some_iff.mp hi).1
  have hl := ht.1
  have hq := (ht.2 i y p R q e2 hi).2.2.2.1
  obtain ⟨g1, g2, g3, g4, g5⟩ := h.2 i y p R q e2 hi
  exact ⟨by rw [e _ (by omega) (by omega)]; exact g1, by rw [e _ (by omega) (by omega)]; exact g2, by rw [e _ (by omega) (by omega)]; exact g3, fun j hj => by rw [e _ (by omega) (by omega)]; exact g4 j hj, fun j h1 h2 => by rw [e _ (by omega) (by omega)]; exact g5 j h1 h2⟩
theorem SkM.kd {M M2 : Mem} {S : Sk} (h : SkM (M.1 101 0) S) (ht : SkT S) (k : K3 PR M M2) : SkM (M2.1 101 0) S := by
  have e : ∀ j, 229 ≤ j → j < 645 → M2.1 101 0 j = M.1 101 0 j := fun j h1 h2 => k 101 0 j (fun z => no101 h1 (by omega) z.1)
  refine ⟨by rw [e _ (by decide) (by decide)]; exact h.1, fun i y s hi => ?_⟩
  have hil : i < S.length := (List.getElem?_eq_some_iff.mp hi).1
  have hl := ht.1
  obtain ⟨g1, g2, g3, g4⟩ := h.2 i y s hi
  exact ⟨by rw [e _ (by omega) (by omega)]; exact g1, fun z => by rw [e _ (by omega) (by omega), e _ (by omega) (by omega)]; exact g2 z, fun z => by rw [e _ (by omega) (by omega)]; exact g3 z, fun z => by rw [e _ (by omega) (by omega)]; exact g4 z⟩
theorem SkC.kw {M M2 : Mem} {b : Nat} {S : Sk} {P : Nat → Nat → Nat → Prop} (h : SkC M b S) (k : K3 P M M2) (hp : ∀ c e j, P c e j → ¬ (50 ≤ c ∧ c < 60)) : SkC M2 b S := ⟨by rw [k 50 b 1 (fun z => hp _ _ _ z (by omega))]; exact h.1, fun i y s hi => by
  rw [k 57 b i (fun z => hp _ _ _ z (by omega)), k 58 b i (fun z => hp _ _ _ z (by omega))]
  exact h.2 i y s hi⟩
theorem OpP_n : ∀ c e j, OpP c e j → ¬ (40 ≤ c ∧ c < 47) ∧ ¬ (50 ≤ c ∧ c < 60) ∧ ¬ (c = 11 ∧ j = 3) := by
  intro c e j h
  simp only [OpP, scrC, Bool.or_eq_true, beq_iff_eq] at h
  omega
theorem PastJ.zero {B : Nat} {M : Mem} {n m nx lc : Nat} (h1 : n ≤ 6) (h2 : m ≤ 6) (h3 : nx < 6) (h4 : M.1 8 0 0 = iN n) (h5 : M.1 100 0 4 = iN m) (h6 : M.1 8 0 1 = iN nx) : PastJ B M n m 0 nx lc := ⟨h1, h2, h3, by omega, by omega, h4, h5, h6, fun _ => 0, fun t ht => absurd ht (by omega), fun t u _ hu => absurd hu (by omega)⟩
theorem days_run {X : Cx} {d n n5 n6 n7 : Nat} {L : Lw} {Cs : Cl} {S : Sk} (hLT : LawT L) (hCT : ClT Cs n5 n6 n7) (hST : SkT S) (hn : n ≤ 60) : ∀ (k i cnt B nc nx lc : Nat) (C : Mem), i + k = n → LawC C 0 L → ClC C 0 Cs → SkC C 0 S → VTn B (TC C 0) n5 n6 n7 → C.1 11 0 3 = 0 → C.1 30 0 0 = iN lc → lc ≤ 150 → C.1 8 0 0 = iN nc → nc ≤ 6 → C.1 8 0 1 = iN nx → nx < 6 →
    ∃ (C' : Mem) (tot : Nat), K3 PC C C' ∧ (∀ Q : Option Vl → Mem → Prop, Q (some (vI (iN (cnt + tot)))) C' → V X (d + 9) 106 31 [some (vR 2 0), some (vI (iN n)), some (vI (iN cnt)), some (vI (iN i))] [] C Q) ∧
    ∀ (m j : Nat) (R : Mem), LawM (R.1 101 0) L → ClM (R.1 101 0) Cs → SkM (R.1 101 0) S → WldL B (mrg C R) lc → PastJ B (mrg C R) nc m j nx lc → (k ≤ 6 → min 6 (nc + k) = min 6 (j + k) ∧ min 6 (m + k) = min 6 (j + k)) →
    ∃ (R' : Mem) (n' nx' lc' : Nat), K3 PR R R' ∧ (∀ Q : Option Vl → Mem → Prop, Q (some (vI (iN (cnt + tot)))) R' → V X (d + 9) 227 30 [some (vR 100 0), some (vI (iN n)), some (vI (iN cnt)), some (vI (iN i))] [] R Q) ∧ WldL (B + 2520 * k) (mrg C' R') lc' ∧ PastJ (B + 2520 * k) (mrg C' R') n' n' n' nx' lc'
  | 0, i, cnt, B, nc, nx, lc, C, hi, hL, hC, hS, hv, h3, hb, hlc, hnc, hnc6, hnx, hnx6 => by
    have hi : i = n := hi
    subst hi
    have f1 : (iN i ≤ iN i) = True := yle_ (by omega) (by omega) (Nat.le_refl _)
    refine ⟨C, 0, k3_refl, fun Q hQ => w106_31 ?_, fun m j R hLM hCM hSM hw hp hj => ⟨R, nc, nx, lc, k3_refl, fun Q hQ => w227_30 ?_, hw, ?_⟩⟩
    · simp only [forall_eq, true_implies, false_implies, not_true_eq_false, not_false_eq_true, and_true, true_and, and_self, isB0, isB1, bI_t0, bI_f0, i10_, i20_, i01_, i02_, i12_, i21_, f1]
      exact hQ
    · simp only [forall_eq, true_implies, false_implies, not_true_eq_false, not_false_eq_true, and_true, true_and, and_self, isB0, isB1, bI_t0, bI_f0, i10_, i20_, i01_, i02_, i12_, i21_, f1]
      exact hQ
    · have := hj (by omega)
      have q1 := hp.2.1
      have q2 := hp.2.2.2.1
      have e1 : m = nc := by omega
      have e2 : j = nc := by omega
      subst e1
      subst e2
      exact hp
  | k + 1, i, cnt, B, nc, nx, lc, C, hi, hL, hC, hS, hv, h3, hb, hlc, hnc, hnc6, hnx, hnx6 => by
    have f1 : (iN n ≤ iN i) = False := nle_ (by omega) (by omega) (by omega)
    have f2 : iN n - iN i = iN (k + 1) := by rw [iN_sub (by omega)]; congr 1; omega
    -- the class keeps
    have keep : ∃ (C1 : Mem) (nc1 nx1 : Nat), K3 PC C C1 ∧ TC C1 0 = TC C 0 ∧ C1.1 30 0 = C.1 30 0 ∧ C1.1 31 0 = C.1 31 0 ∧ nc1 ≤ 6 ∧ nx1 < 6 ∧ C1.1 8 0 0 = iN nc1 ∧ C1.1 8 0 1 = iN nx1 ∧ (∀ (Q : Option Vl → Mem → Prop) (r : Int32) (C2 : Mem), CC X (d + 8) 95 [vR 11 0] C1 (some (vI r)) C2 → V X (d + 9) 106 31 [some (vR 2 0), some (vI (iN n)), some (vI (iN cnt + r)), some (vI (iN (i + 1)))] [] C2 Q → V X (d + 9) 106 31 [some (vR 2 0), some (vI (iN n)), some (vI (iN cnt)), some (vI (iN i))] [] C Q) ∧
        ((k + 1 ≤ 6 ∧ nc1 = min 6 (nc + 1) ∧ nx1 = (nx + 1) % 6 ∧ TC C1 (2 + nx) = TC C 0 ∧ C1.1 30 (2 + nx) 0 = C.1 30 0 0 ∧ (∀ j, j < 600 → C1.1 31 (2 + nx) j = C.1 31 0 j) ∧ K3 (fun c e j => (e = 2 + nx ∧ 20 ≤ c ∧ c < 32) ∨ (c = 8 ∧ e = 0 ∧ j < 2)) C C1) ∨ (6 < k + 1 ∧ C1 = C ∧ nc1 = nc ∧ nx1 = nx)) := by
      by_cases hk : k + 1 ≤ 6
      · obtain ⟨C1, x1, x2, x3, x4, x5, x6, x7⟩ := c8 (X := X) (d := d + 5) (M := C) hnc6 hnx6 hnc hnx
        refine ⟨C1, min 6 (nc + 1), (nx + 1) % 6, k3_sub x7 (fun c e j z => ⟨Wq_o hnx6 c e j z, by omega⟩), TC_k x7 (fun c j h1 h2 => by omega), k3_col x7 (fun _ => by omega), k3_col x7 (fun _ => by omega), by omega, by omega, x5, x6, fun Q r C2 h1 h2 => w106_31 ?_, Or.inl ⟨hk, rfl, rfl, x2, x3, x4, x7⟩⟩
        simp only [forall_eq, true_implies, false_implies, not_true_eq_false, not_false_eq_true, and_true, true_and, and_self, isB0, isB1, bI_t0, bI_f0, i10_, i20_, i01_, i02_, i12_, i21_, f1, f2, show (6 < iN (k + 1)) = False from nlt_ (a := 6) (by decide) (by omega) hk, iN_step]
        exact ⟨_, x1, _, _, h1, h2⟩
      · refine ⟨C, nc, nx, k3_refl, rfl, rfl, rfl, hnc6, hnx6, hnc, hnx, fun Q r C2 h1 h2 => w106_31 ?_, Or.inr ⟨by omega, rfl, rfl, rfl⟩⟩
        simp only [forall_eq, true_implies, false_implies, not_true_eq_false, not_false_eq_true, and_true, true_and, and_self, isB0, isB1, bI_t0, bI_f0, i10_, i20_, i01_, i02_, i12_, i21_, f1, f2, show (6 < iN (k + 1)) = True from ylt_ (a := 6) (by decide) (by omega) (by omega), iN_step]
        exact ⟨_, _, h1, h2⟩
    obtain ⟨C1, nc1, nx1, y1, y2, y3, y4, y5, y6, y7, y8, y9, y10⟩ := keep
    have hL1 : LawC C1 0 L := hL.kw (a := 0) y1 (fun c b j z => by have := OpP_n c b j z.1; omega)
    have hC1 : ClC C1 0 Cs := hC.kw y1 (fun c b j z => (OpP_n c b j z.1).2.1)
    have hS1 : SkC C1 0 S := hS.kw y1 (fun c b j z => (OpP_n c b j z.1).2.1)
    obtain ⟨C2, z1, z2, z3, z4⟩ := c95 (X := X) (d := d + 1) (M := C1) (a := 0) (real := true) (s := (lc, C.1 31 0)) hL1 hLT hC1 hCT hS1 hST (by rw [y2]; exact hv) (by rw [y1 11 0 3 (fun z => (OpP_n _ _ _ z.1).2.2 ⟨rfl, rfl⟩)]; exact h3) ⟨hlc, by rw [y3]; exact hb, y4⟩
    rw [y2] at z1 z2 z3
    have kc2 : K3 PC C1 C2 := k3_sub z4 (fun c b j z => ⟨Wv_o (by decide) c b j z, Wv_lt c b j z⟩)
    have dv := dayS_v (L := L) (S := S) (real := true) hv hCT
    have b2 : C2.1 30 0 0 = iN (bkL (lc, C.1 31 0) (dayS L Cs S n5 n6 n7 true (TC C 0)).2.2).1 := z3.2.1
    obtain ⟨C', tot, w1, w2, w3⟩ := days_run (X := X) (d := d) hLT hCT hST hn k (i + 1) (cnt + (dayS L Cs S n5 n6 n7 true (TC C 0)).2.1) (B + 2520) nc1 nx1 (bkL (lc, C.1 31 0) (dayS L Cs S n5 n6 n7 true (TC C 0)).2.2).1 C2 (by omega) (hL1.kw (a := 0) z4 Wv_l) (hC1.kw z4 Wv_n) (hS1.kw z4 Wv_n) (by rw [z2]; exact dv) (by rw [z4 11 0 3 (by simp [Wv, Wk]), y1 11 0 3 (fun z => (OpP_n _ _ _ z.1).2.2 ⟨rfl, rfl⟩)]; exact h3) b2 z3.1 (by rw [z4 8 0 0 (by simp [Wv, Wk])]; exact y7) y5 (by rw [z4 8 0 1 (by simp [Wv, Wk])]; exact y8) y6
    refine ⟨C', (dayS L Cs S n5 n6 n7 true (TC C 0)).2.1 + tot, k3_trans (k3_trans y1 kc2) w1, fun Q hQ => y9 Q _ _ z1 ?_, fun m j R hLM hCM hSM hw hp hj => ?_⟩
    · rw [iN_add]
      exact w2 Q (by rw [Nat.add_assoc]; exact hQ)
    · have hT : TC C 0 = TM R := by have := hw.1; rwa [mrg_tc, mrg_tm] at this
      have a7 : R.1 100 0 4 = iN m := by have := hp.2.2.2.2.2.2.1; rwa [mrg_r (by decide)] at this
      obtain ⟨R1, s1, s2, s3, s4, s5, s6⟩ := c211 (X := X) (d := d + 7) (M := R) hp.2.1 a7
      have wR1 : R1.1 101 0 = R.1 101 0 := k3_col s6 (fun _ => by omega)
      have TR1 : TM R1 = TM R := by
        show TW (R1.1 101 0) = TW (R.1 101 0)
        rw [wR1]
      have hB := hw.2.2.2
      have bm : BkM (R.1 101 0) (lc, fun j => R.1 101 0 (645 + j)) := by
        have := hB.m
        rwa [mrg_r (by decide)] at this
      obtain ⟨R2, t1, t2, t3, t4⟩ := c226 (X := X) (d := d) (M := R1) (L := L) (C := Cs) (S := S) (real := true) (s := (lc, fun j => R.1 101 0 (645 + j))) (B := B) (n5 := n5) (n6 := n6) (n7 := n7) (by rw [wR1]; exact hLM) hLT (by rw [wR1]; exact hCM) hCT (by rw [wR1]; exact hSM) hST (by rw [TR1, ← hT]; exact hv) s3 (by rw [wR1]; exact bm)
      rw [TR1, ← hT] at t1 t2 t3
      have kr1 : K3 PR R R1 := k3_sub s6 (fun c a j z => ⟨Wr_o c a j z, by omega⟩)
      have kr2 : K3 PR R1 R2 := k3_sub t4 (fun c a j z => ⟨Wd_o c a j z, Wd_ge c a j z⟩)
      have kr := k3_trans kr1 kr2
      have kc := k3_trans y1 kc2
      have KK : K3 OpP (mrg C R) (mrg C2 R2) := k3_trans (k3_mc (k3_sub kc (fun c a j z => z.1))) (k3_mr (k3_sub kr (fun c a j z => z.1)))
      obtain ⟨lc2, l1, l2, l3⟩ := hw.walk (B2 := B + 2520) (M2 := mrg C2 R2) (T := (dayS L Cs S n5 n6 n7 true (TC C 0)).1) (es := (dayS L Cs S n5 n6 n7 true (TC C 0)).2.2) KK (by rw [mrg_r (by decide), mrg_r (by decide), t4 101 0 6 (by simp [Wd, Wm, Wb]), wR1]) (by rw [mrg_tc, z2]) (by rw [mrg_tm, t2]) ⟨n5, n6, n7, dv⟩ (by
        refine ⟨?_, ?_, ?_⟩
        · rw [mrg_c (by decide)]
          exact z3.1
        · rw [mrg_c (by decide), mrg_c (by decide)]
          exact z3.2.1
        · rw [mrg_c (by decide), mrg_c (by decide)]
          exact z3.2.2) (by
        rw [mrg_r (by decide), mrg_r (by decide)]
        exact t3)
      have elc : lc2 = (bkL (lc, C.1 31 0) (dayS L Cs S n5 n6 n7 true (TC C 0)).2.2).1 := by
        have h1 := l2.2.2.2.2.1
        rw [mrg_c (by decide), b2] at h1
        have q1 := l2.2.2.2.1
        have q2 := z3.1
        exact ((iN_inj (by omega) (by omega)).mp h1).symm
      rw [elc] at l2
      have past : ∃ m' j', PastJ (B + 2520) (mrg C2 R2) nc1 m' j' nx1 (bkL (lc, C.1 31 0) (dayS L Cs S n5 n6 n7 true (TC C 0)).2.2).1 ∧ (k ≤ 6 → min 6 (nc1 + k) = min 6 (j' + k) ∧ min 6 (m' + k) = min 6 (j' + k)) := by
        rcases y10 with ⟨hk, e1, e2, x2, x3, x4, x7⟩ | ⟨hk, e0, e1, e2⟩
        · refine ⟨min 6 (m + 1), min 6 (j + 1), ?_, fun _ => ?_⟩
          · rw [e1, e2]
            refine PastJ.mono (B := B) (keep_fin (M := mrg C R) (N1 := mrg C1 R) (N3 := mrg C2 R) (N4 := mrg C2 R1) (N5 := mrg C2 R2) (P1 := Wv 0) (P2 := Wd) hp hw (by rw [mrg_tc, mrg_tc]; exact x2) (by rw [mrg_c (by decide), mrg_c (by decide)]; exact x3) (fun j hj => by rw [mrg_c (by decide), mrg_c (by decide)]; exact x4 j hj) (by rw [mrg_c (by decide), y7, e1]) (by rw [mrg_c (by decide), y8, e2]) (k3_mc x7) (k3_mc z4) NoPast_v (by rw [mrg_r (by decide), mrg_r (by decide)]) (by rw [mrg_r (by decide)]; exact s2) (fun k hk => by rw [mrg_r (by decide), mrg_r (by decide)]; exact s4 k hk) (fun t k q1 q2 q3 => by rw [mrg_r (by decide), mrg_r (by decide)]; exact s5 t k q1 q2 q3) (k3_mr s6) (k3_mr t4) NoPast_d (by rw [← elc]; exact l1) l3) (by omega)
          · have := hj hk
            rw [e1]
            omega
        · refine ⟨min 6 (m + 1), 0, PastJ.zero y5 (by omega) y6 ?_ ?_ ?_, fun _ => by omega⟩
          · rw [mrg_c (by decide), z4 8 0 0 (by simp [Wv, Wk])]
            exact y7
          · rw [mrg_r (by decide), t4 100 0 4 (by simp [Wd, Wm, Wb])]
            exact s2
          · rw [mrg_c (by decide), z4 8 0 1 (by simp [Wv, Wk])]
            exact y8
      obtain ⟨m', j', p1, p2⟩ := past
      obtain ⟨R', n', nx', lc', v1, v2, v3, v4⟩ := w3 m' j' R2 (hLM.keep (kr 101 0 232 (fun z => no101 (by decide) (by decide) z.1)) (fun j hj => kr 101 0 j (fun z => no101 (by omega) (by omega) z.1))) (hCM.kd hCT kr) (hSM.kd hST kr) l2 p1 p2
      refine ⟨R', n', nx', lc', k3_trans kr v1, fun Q hQ => w227_30 ?_, ?_, ?_⟩
      · simp only [forall_eq, true_implies, false_implies, not_true_eq_false, not_false_eq_true, and_true, true_and, and_self, isB0, isB1, bI_t0, bI_f0, i10_, i20_, i01_, i02_, i12_, i21_, f1, iN_step]
        refine ⟨_, s1, _, _, t1, ?_⟩
        rw [iN_add]
        exact v2 Q (by rw [Nat.add_assoc]; exact hQ)
      · rw [show B + 2520 * (k + 1) = B + 2520 + 2520 * k by omega]
        exact v3
      · rw [show B + 2520 * (k + 1) = B + 2520 + 2520 * k by omega]
        exact v4
theorem mrg_self {C C' : Mem} (k : K3 PC C C') : ∀ c a j, (mrg C C').1 c a j = C.1 c a j := fun c a j => by
  by_cases h : c < 100
  · rw [mrg_c h]
  · rw [mrg_r (by omega)]
    exact k c a j (fun z => h z.2)
theorem mrg_end {C' R' : Mem} (k : K3 PR C' R') : ∀ c a j, (mrg C' R').1 c a j = R'.1 c a j := fun c a j => by
  by_cases h : c < 100
  · rw [mrg_c h]
    exact (k c a j (fun z => absurd z.2 (by omega))).symm
  · rw [mrg_r (by omega)]
theorem WldL.eqv {B : Nat} {M M2 : Mem} {lc : Nat} (h : WldL B M lc) (e : ∀ c a j, M2.1 c a j = M.1 c a j) : WldL B M2 lc := h.same (Nat.le_refl _) (funext fun j => e 101 0 j) (fun c _ _ => funext fun j => e c 0 j)
theorem PastJ.eqv {B : Nat} {M M2 : Mem} {n m j nx lc : Nat} (h : PastJ B M n m j nx lc) (e : ∀ c a j, M2.1 c a j = M.1 c a j) : PastJ B M2 n m j nx lc := h.frame (Nat.le_refl _) (by rw [show M2.1 101 0 = M.1 101 0 from funext fun j => e 101 0 j]; exact ShW.refl) (e 8 0 0) (e 8 0 1) (e 100 0 4) (funext fun j => e 103 0 j) (fun c a _ _ _ _ => funext fun j => e c a j)
theorem op106 {X : Cx} {d : Nat} {M : Mem} {B n nx lc : Nat} {v : Int32} {L : Lw} {Cs : Cl} {S : Sk} {n5 n6 n7 : Nat} (hw : WldL B M lc) (hp : PastJ B M n n n nx lc) (hv : VTn B (TM M) n5 n6 n7) (hLC : LawC M 0 L) (hLM : LawM (M.1 101 0) L) (hLT : LawT L) (hCC : ClC M 0 Cs) (hCM : ClM (M.1 101 0) Cs) (hCT : ClT Cs n5 n6 n7) (hSC : SkC M 0 S) (hSM : SkM (M.1 101 0) S) (hST : SkT S) (h3 : M.1 11 0 3 = 0) : ∃ (x : Int32) (M1 M2 : Mem), CC X (d + 9) 106 [vR 2 0, vI v] M (some (vI x)) M1 ∧ CC X (d + 9) 227 [vR 100 0, vI v] M1 (some (vI x)) M2 ∧ WalkR (B + 151200) M M2 := by
  have hT := hw.1
  have d4 : M.1 20 0 4 = M.1 101 0 3 := by
    have a1 : M.1 101 0 3 = TM M 20 4 := TW_c (c := 20) (j := 4) (by decide)
    rw [a1, ← hT, TC20 (by decide)]
  have i3 : inb 3 2129 := inb_l (by decide) (by decide)
  have x3 : ix 3 = 3 := ix_l (by decide)
  have cr (M1 : Mem) := c151 (X := X) (d := d + 7) (M := M1) (v := v) (lo := 1) (hi := 60)
  have cc := c146 (X := X) (d := d + 7) (M := M) (v := v) (lo := 1) (hi := 60)
  by_cases hr : inR v 1 60 = true
  · rw [hr] at cc cr
    by_cases hd : M.1 101 0 3 + v ≤ 9999
    · obtain ⟨k, rfl, hk⟩ := inR_iN (hi := 60) (by decide) (by
        simp only [inR, Bool.and_eq_true, decide_eq_true_eq] at hr ⊢
        exact ⟨Int32.le_trans (by decide) hr.1, hr.2⟩)
      obtain ⟨C', tot, w1, w2, w3⟩ := days_run (X := X) (d := d) (n := k) hLT hCT hST hk k 0 0 B n nx lc M (by omega) hLC hCC hSC (by rw [hT]; exact hv) h3 hw.2.2.2.2.1 hw.2.2.2.1 hp.2.2.2.2.2.1 hp.1 hp.2.2.2.2.2.2.2.1 hp.2.2.1
      have wC : C'.1 101 0 = M.1 101 0 := k3_col w1 (fun _ z => absurd z.2 (by omega))
      obtain ⟨R', n', nx', lc', v1, v2, v3, v4⟩ := w3 n n C' (by rw [wC]; exact hLM) (by rw [wC]; exact hCM) (by rw [wC]; exact hSM) (hw.eqv (mrg_self w1)) (hp.eqv (mrg_self w1)) (fun _ => ⟨rfl, rfl⟩)
      have ee : ∀ c a j, R'.1 c a j = (mrg C' R').1 c a j := fun c a j => (mrg_end v1 c a j).symm
      refine ⟨iN (0 + tot), C', R', e106 (w106_0 ⟨_, _, cc, ?_⟩), e227 (w227_0 ⟨_, _, cr C', ?_⟩), n', nx', lc', ?_, ?_, k3_trans (k3_sub w1 (fun c a j z => z.1)) (k3_sub v1 (fun c a j z => z.1))⟩
      · simp only [forall_eq, true_implies, false_implies, not_true_eq_false, not_false_eq_true, and_true, true_and, and_self, isB0, isB1, bI_t0, bI_f0, i10_, i20_, i01_, i02_, i12_, i21_, d4, hd]
        exact w2 _ ⟨rfl, rfl⟩
      · simp only [forall_eq, true_implies, false_implies, not_true_eq_false, not_false_eq_true, and_true, true_and, and_self, isB0, isB1, bI_t0, bI_f0, i10_, i20_, i01_, i02_, i12_, i21_, i3, x3, wC, hd]
        exact v2 _ ⟨rfl, rfl⟩
      · have := v3.eqv ee
        exact this.same (by omega) rfl (fun _ _ _ => rfl)
      · exact (v4.eqv ee).mono (by omega)
    · refine ⟨-1, M, M, e106 (w106_0 ⟨_, _, cc, ?_⟩), e227 (w227_0 ⟨_, _, cr M, ?_⟩), WalkR.refl hw hp (by omega)⟩
      · simp only [forall_eq, true_implies, false_implies, not_true_eq_false, not_false_eq_true, and_true, true_and, and_self, isB0, isB1, bI_t0, bI_f0, i10_, i20_, i01_, i02_, i12_, i21_, d4, hd]
      · simp only [forall_eq, true_implies, false_implies, not_true_eq_false, not_false_eq_true, and_true, true_and, and_self, isB0, isB1, bI_t0, bI_f0, i10_, i20_, i01_, i02_, i12_, i21_, i3, x3, hd]
  · have hr : inR v 1 60 = false := by simpa using hr
    rw [hr] at cc cr
    refine ⟨-1, M, M, e106 (w106_0 ⟨_, _, cc, ?_⟩), e227 (w227_0 ⟨_, _, cr M, ?_⟩), WalkR.refl hw hp (by omega)⟩
    · simp only [forall_eq, true_implies, false_implies, not_true_eq_false, not_false_eq_true, and_true, true_and, and_self, isB0, isB1, bI_t0, bI_f0, i10_, i20_, i01_, i02_, i12_, i21_]
    · simp only [forall_eq, true_implies, false_implies, not_true_eq_false, not_false_eq_true, and_true, true_and, and_self, isB0, isB1, bI_t0, bI_f0, i10_, i20_, i01_, i02_, i12_, i21_]
