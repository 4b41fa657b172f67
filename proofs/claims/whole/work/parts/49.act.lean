/-! act, both -/
def swS (T : Ld) (e n5 : Nat) : Nat → Ld
  | 0 => T
  | f + 1 => up2 (if f < n5 then up2 (swS T e n5 f) 22 f (lsr 9999 ((swS T e n5 f) 22 f + (swS T e n5 f) 24 (e * 10 + f))) else swS T e n5 f) 24 (e * 10 + f) 0
theorem swS_keep {T : Ld} {e n5 : Nat} : ∀ {j c i : Nat}, ((c ≠ 22 ∧ c ≠ 24) ∨ (c = 22 ∧ j ≤ i) ∨ (c = 24 ∧ e * 10 + j ≤ i)) → swS T e n5 j c i = T c i
  | 0, _, _, _ => rfl
  | j + 1, c, i, h => by
    have ih : swS T e n5 j c i = T c i := swS_keep (by omega)
    unfold swS
    rw [up2_ne (by omega)]
    split
    · rw [up2_ne (by omega)]
      exact ih
    · exact ih
theorem swS_v {B n5 n6 n7 : Nat} {T : Ld} {e : Nat} (h : VTn B T n5 n6 n7) (hB : B < 1073741824) (he : e < 8) : ∀ {j : Nat}, j ≤ 10 → VTn B (swS T e n5 j) n5 n6 n7
  | 0, _ => h
  | j + 1, hj => by
    obtain ⟨h1, h2, h3, h4, h5, h6, h7, h8, h9, h10, h11, h12⟩ := swS_v (e := e) h hB he (j := j) (by omega)
    have off : ∀ c i, c ≠ 22 → c ≠ 24 → swS T e n5 (j + 1) c i = swS T e n5 j c i := fun c i q1 q2 => by rw [swS_keep (Or.inl ⟨q1, q2⟩), swS_keep (Or.inl ⟨q1, q2⟩)]
    refine ⟨h1, h2, h3, ?_, ?_, ?_, ?_, fun g hg => ?_, fun q hq => ?_, fun q hq1 hq2 g hg => ?_, fun e2 g he2 hg => ?_, fun e2 g he2 hg hg2 => ?_⟩
    · rw [off _ _ (by decide) (by decide)]; exact h4
    · rw [off _ _ (by decide) (by decide)]; exact h5
    · rw [off _ _ (by decide) (by decide)]; exact h6
    · rw [off _ _ (by decide) (by decide)]; exact h7
    · unfold swS
      rw [up2_ne (by omega)]
      split
      · by_cases hgj : g = j
        · subst hgj
          rw [up2_at]
          obtain ⟨l, l1, l2⟩ := h8 g (by omega)
          obtain ⟨y, y1, y2⟩ := h11 e g he (by omega)
          rw [l2, y2, iN_add, iN_lit 9999, lsr_n (by decide) (by omega)]
          exact ⟨_, Nat.min_le_left _ _, rfl⟩
        · rw [up2_ne (by omega)]
          exact h8 g hg
      · exact h8 g hg
    · obtain ⟨hm, s, b, c1, c2, c3, c4, c5, d1, d2, d3⟩ := h9 q hq
      exact ⟨hm, s, b, c1, by rw [off _ _ (by decide) (by decide)]; exact c2, c3, c4, by rw [off _ _ (by decide) (by decide)]; exact c5, fun g hg => by rw [off _ _ (by decide) (by decide)]; exact d1 g hg, d2, d3⟩
    · rw [off _ _ (by decide) (by decide)]; exact h10 q hq1 hq2 g hg
    · unfold swS
      by_cases hx : e2 * 10 + g = e * 10 + j
      · rw [hx, up2_at]
        exact ⟨0, by omega, rfl⟩
      · rw [up2_ne (by omega)]
        split
        · rw [up2_ne (by omega)]
          exact h11 e2 g he2 hg
        · exact h11 e2 g he2 hg
    · unfold swS
      by_cases hx : e2 * 10 + g = e * 10 + j
      · rw [hx, up2_at]
      · rw [up2_ne (by omega)]
        split
        · rw [up2_ne (by omega)]
          exact h12 e2 g he2 hg hg2
        · exact h12 e2 g he2 hg hg2
theorem min_c9 (x : Int32) : (if x < 9999 then x else 9999) = lsr 9999 x := by unfold lsr; grind
theorem c70 {X : Cx} {d : Nat} {M : Mem} {a n f : Nat} {x : Int32} (hn : n ≤ 10) (h5 : M.1 20 a 5 = iN n) (hf : f < 10) : ∃ M', CC X (d + 2) 70 [vR 20 a, vI (iN f), vI x] M none M' ∧ TC M' a = (if f < n then up2 (TC M a) 22 f (lsr 9999 (TC M a 22 f + x)) else TC M a) ∧ K3 (fun c b _ => b = a ∧ c = 22) M M' := by
  have t22 : TC M a 22 f = M.1 22 a f := TC_rd (by simpa [okC] using hf)
  by_cases h : f < n
  · rw [if_pos h]
    refine ⟨st M 22 a f (lsr 9999 (TC M a 22 f + x)), e70 (w70_0 ⟨_, _, c55, ?_⟩), TC_st (by simpa [okC] using hf), k3_st ⟨rfl, rfl⟩⟩
    rw [h5, show has (iN f) (iN n) 10 = true from has_of h hn (by decide)]
    simp only [forall_eq, true_implies, false_implies, not_true_eq_false, not_false_eq_true, and_true, true_and, and_self, isB0, isB1, bI_t0, bI_f0, i10_, i20_, i01_, i02_, i12_, i21_, show inb (iN f) 10 from inb_of hf (by decide), ix_of (show f < 2147483648 by omega)]
    rw [min_c9, t22]
  · rw [if_neg h]
    refine ⟨M, e70 (w70_0 ⟨_, _, c55, ?_⟩), rfl, k3_refl⟩
    rw [h5, show has (iN f) (iN n) 10 = false from has_no (by omega) (by omega) hn (by decide)]
    simp only [forall_eq, true_implies, false_implies, not_true_eq_false, not_false_eq_true, and_true, true_and, and_self, isB0, isB1, bI_t0, bI_f0, i10_, i20_, i01_, i02_, i12_, i21_]
theorem c97 {X : Cx} {d : Nat} {M : Mem} {a B n5 n6 n7 e : Nat} {s : Bk} (hv : VTn B (TC M a) n5 n6 n7) (he : e < n6) (hb : BkC M a s) : ∃ M', CC X (d + 3) 97 [vR 11 a, vI (iN e)] M none M' ∧ TC M' a = swS (TC M a) e n5 10 ∧ BkC M' a (bkA s (TC M a 20 4, 3, iN e, acres (TC M a) e)) ∧ K3 (Wv a) M M' := by
  obtain ⟨c5, c6, c7, q5, q6, q7⟩ := vt_c hv
  have hase : has (iN e) (iN n6) 8 = true := has_of he q6 (by decide)
  have ce := c56 (X := X) (d := d + 1) (M := M) (a := a) (v := iN e)
  rw [c6, hase] at ce
  have ca := c65 (X := X) (d := d) (M := M) (a := a) (p := iN e)
  rw [c6, if_pos hase, ix_of (by omega)] at ca
  obtain ⟨Mn, ⟨g1, g2⟩, hV⟩ := for_fwd (n := 10) (M := M)
    (I := fun j Mj => TC Mj a = swS (TC M a) e n5 j ∧ K3 (fun c b _ => b = a ∧ (c = 22 ∨ c = 24)) M Mj)
    (St := fun j Mj Q => V X (d + 3) 97 23 [some (vR 11 a), some (vI (iN e)), some (vI (acres (TC M a) e)), some (vI (iN j))] [] Mj Q)
    (by
      rintro j Mj hj ⟨i1, i2⟩
      have t24 : TC Mj a 24 (e * 10 + j) = Mj.1 24 a (e * 10 + j) := TC_rd (okT24 (by omega) (by omega))
      have h5 : Mj.1 20 a 5 = iN n5 := by rw [i2 20 a 5 (by omega)]; exact c5
      obtain ⟨M1, p1, p2, p3⟩ := c70 (X := X) (d := d) (M := Mj) (a := a) (f := j) (x := Mj.1 24 a (e * 10 + j)) q5 h5 hj
      refine ⟨st M1 24 a (e * 10 + j) 0, ⟨?_, k3_trans (k3_trans i2 (k3_sub p3 (fun c b j z => ⟨z.1, Or.inl z.2⟩))) (k3_st ⟨rfl, Or.inr rfl⟩)⟩, fun Q hQ => w97_23 ?_⟩
      · rw [TC_st (okT24 (by omega) (by omega)), p2, ← t24, i1]
        rfl
      · simp only [forall_eq, true_implies, false_implies, not_true_eq_false, not_false_eq_true, and_true, true_and, and_self, isB0, isB1, bI_t0, bI_f0, i10_, i20_, i01_, i02_, i12_, i21_, show (10 ≤ iN j) = False from nle_ (a := 10) (by decide) (by omega) hj, iN_10, show inb (iN (e * 10 + j)) 80 from inb_of (by omega) (by decide), ix_of (show e * 10 + j < 2147483648 by omega), iN_step]
        exact ⟨_, p1, hQ⟩)
    ⟨rfl, k3_refl⟩
  have d4 : Mn.1 20 a 4 = TC M a 20 4 := by rw [g2 20 a 4 (by omega)]; exact (TC20 (by decide)).symm
  obtain ⟨M', w1, w2, w3⟩ := c0 (X := X) (d := d + 1) (x := TC M a 20 4) (y := 3) (z := iN e) (u := acres (TC M a) e) (show BkC Mn a s from ⟨hb.1, by rw [g2 30 a 0 (by omega)]; exact hb.2.1, by rw [k3_col g2 (fun _ => by omega)]; exact hb.2.2⟩)
  refine ⟨M', e97 (w97_0 ⟨_, _, ce, ?_⟩), (TC_k w3 (fun c j h1 h2 => by omega)).trans g1, w2, k3_trans (k3_sub g2 (fun c b j z => Or.inl (Or.inr (Or.inr ⟨z.1, by omega, by omega⟩)))) (k3_sub w3 (fun c b j z => Or.inr (Or.inr z)))⟩
  simp only [forall_eq, true_implies, false_implies, not_true_eq_false, not_false_eq_true, and_true, true_and, and_self, isB0, isB1, bI_t0, bI_f0, i10_, i20_, i01_, i02_, i12_, i21_]
  refine ⟨_, _, ca, hV _ (w97_23 ?_)⟩
  simp only [forall_eq, true_implies, false_implies, not_true_eq_false, not_false_eq_true, and_true, true_and, and_self, isB0, isB1, bI_t0, bI_f0, i10_, i20_, i01_, i02_, i12_, i21_, show ((10 : Int32) ≤ iN 10) = True from by decide, d4]
  exact ⟨_, w1, rfl⟩
/-! the reference sweeps -/
theorem c219 {X : Cx} {d : Nat} {M : Mem} {f : Nat} {x : Int32} (hf : f < 10) : CC X (d + 2) 219 [vR 100 0, vI (iN f), vI x] M none (st M 101 0 (7 + f) (lsr 9999 (TM M 22 f + x))) := by
  have q7' : 7 + iN f = iN (7 + f) := by simp only [iN_lit, iN_add]
  have t22 : M.1 101 0 (7 + f) = TM M 22 f := TW_c (show okC 22 f = true by simpa [okC] using hf)
  refine e219 (w219_0 ?_)
  simp only [forall_eq, true_implies, false_implies, not_true_eq_false, not_false_eq_true, and_true, true_and, and_self, isB0, isB1, bI_t0, bI_f0, i10_, i20_, i01_, i02_, i12_, i21_, q7', show inb (iN (7 + f)) 2129 from inb_of (by omega) (by decide), ix_of (show 7 + f < 2147483648 by omega), t22]
  exact ⟨_, _, c152, rfl⟩
theorem up2_id {T : Ld} {c j : Nat} : up2 T c j (T c j) = T := by
  funext c' j'
  unfold up2
  split
  · next h => rw [h.1, h.2]
  · rfl
theorem c220 {X : Cx} {d : Nat} {M : Mem} {B n5 n6 n7 e : Nat} {s : Bk} {real : Bool} (hv : VTn B (TM M) n5 n6 n7) (he : e < n6) (hr : M.1 100 0 26 = bI real) (hb : BkM (M.1 101 0) s) : ∃ M', CC X (d + 3) 220 [vR 100 0, vI (iN e)] M none M' ∧ TM M' = swS (TM M) e n5 10 ∧ BkM (M'.1 101 0) (bkR real s (TM M 20 4, 3, iN e, acres (TM M) e)) ∧ K3 Wm M M' := by
  obtain ⟨g5, g6, g7, q5, q6, q7⟩ := vt_m hv
  obtain ⟨h1, h2, h3, h4, h5, h6, h7, h8, h9, h10, h11, h12⟩ := hv
  obtain ⟨Mn, ⟨j1, j2⟩, hV⟩ := for_fwd (n := 10) (M := M)
    (I := fun j Mj => TM Mj = swS (TM M) e n5 j ∧ K3 (fun c a j => c = 101 ∧ a = 0 ∧ 7 ≤ j ∧ j < 109) M Mj)
    (St := fun j Mj Q => V X (d + 3) 220 4 [some (vR 100 0), some (vI (iN e)), some (vI (sumI (fun f => TM M 24 (e * 10 + f)) j)), some (vI (iN j))] [] Mj Q)
    (by
      rintro j Mj hj ⟨i1, i2⟩
      have t24 : Mj.1 101 0 (29 + (e * 10 + j)) = TM M 24 (e * 10 + j) := by
        rw [show Mj.1 101 0 (29 + (e * 10 + j)) = TM Mj 24 (e * 10 + j) from TW_c (okT24 (by omega) (by omega)), i1]
        exact swS_keep (Or.inr (Or.inr ⟨rfl, Nat.le_refl _⟩))
      refine ⟨st (st Mj 101 0 (7 + j) (lsr 9999 (TM Mj 22 j + TM M 24 (e * 10 + j)))) 101 0 (29 + (e * 10 + j)) 0, ⟨?_, k3_trans (k3_trans i2 (k3_st ⟨rfl, rfl, by omega, by omega⟩)) (k3_st ⟨rfl, rfl, by omega, by omega⟩)⟩, fun Q hQ => w220_4 ?_⟩
      · rw [TM_24 (by omega), TM_22 hj, i1]
        show _ = up2 (if j < n5 then up2 (swS (TM M) e n5 j) 22 j (lsr 9999 ((swS (TM M) e n5 j) 22 j + (swS (TM M) e n5 j) 24 (e * 10 + j))) else swS (TM M) e n5 j) 24 (e * 10 + j) 0
        rw [swS_keep (c := 24) (Or.inr (Or.inr ⟨rfl, Nat.le_refl _⟩))]
        by_cases hjn : j < n5
        · rw [if_pos hjn]
        · rw [if_neg hjn, h12 e j (by omega) (by omega) hj]
          obtain ⟨l, l1, l2⟩ := h8 j hj
          have e1 : (swS (TM M) e n5 j) 22 j = iN l := by rw [swS_keep (Or.inr (Or.inl ⟨rfl, Nat.le_refl _⟩))]; exact l2
          have e2 : lsr 9999 ((swS (TM M) e n5 j) 22 j + 0) = (swS (TM M) e n5 j) 22 j := by
            rw [e1, iN_lit 0, iN_add, Nat.add_zero, iN_lit 9999, lsr_n (by decide) (by omega), Nat.min_eq_right l1]
          rw [e2, up2_id]
      · simp only [forall_eq, true_implies, false_implies, not_true_eq_false, not_false_eq_true, and_true, true_and, and_self, isB0, isB1, bI_t0, bI_f0, i10_, i20_, i01_, i02_, i12_, i21_, show (10 ≤ iN j) = False from nle_ (a := 10) (by decide) (by omega) hj, iN_29, show inb (iN (29 + (e * 10 + j))) 2129 from inb_of (by omega) (by decide), ix_of (show 29 + (e * 10 + j) < 2147483648 by omega), t24, iN_step]
        exact ⟨_, c219 hj, hQ⟩)
    ⟨rfl, k3_refl⟩
  have d4 : TM Mn 20 4 = TM M 20 4 := by rw [j1]; exact swS_keep (by omega)
  obtain ⟨M', w1, w2, w3, w4⟩ := c213 (X := X) (d := d + 1) (x := 3) (y := iN e) (z := acres (TM M) e) (show Mn.1 100 0 26 = bI real by rw [j2 100 0 26 (by omega)]; exact hr) (show BkM (Mn.1 101 0) s from ⟨hb.1, by rw [j2 101 0 5 (by omega)]; exact hb.2.1, fun i hi => by rw [j2 101 0 _ (by omega)]; exact hb.2.2 i hi⟩)
  rw [d4] at w2
  refine ⟨M', e220 (w220_0 (hV _ (w220_4 ?_))), w3.trans j1, w2, k3_trans (k3_sub j2 (fun c a j z => Or.inr (Or.inr (Or.inr ⟨z.1, z.2.1, by omega, by omega⟩)))) (k3_sub w4 Wn_m)⟩
  simp only [forall_eq, true_implies, false_implies, not_true_eq_false, not_false_eq_true, and_true, true_and, and_self, isB0, isB1, bI_t0, bI_f0, i10_, i20_, i01_, i02_, i12_, i21_, show ((10 : Int32) ≤ iN 10) = True from by decide]
  exact ⟨_, w1, rfl⟩
/-! keeping, whatever comes between -/
def NoPast (P : Nat → Nat → Nat → Prop) : Prop := ∀ c a j, P c a j → ¬ c = 8 ∧ ¬ c = 103 ∧ ¬ (c = 100 ∧ a = 0 ∧ j = 4) ∧ ¬ (20 ≤ c ∧ c < 32 ∧ 2 ≤ a)
theorem keep_fin {B : Nat} {M N1 N3 N4 N5 : Mem} {n m j nx lc lc2 : Nat} {P1 P2 : Nat → Nat → Nat → Prop} (hp : PastJ B M n m j nx lc) (hw : WldL B M lc)
    (x2 : TC N1 (2 + nx) = TC M 0) (x3 : N1.1 30 (2 + nx) 0 = M.1 30 0 0) (x4 : ∀ j, j < 600 → N1.1 31 (2 + nx) j = M.1 31 0 j) (x5 : N1.1 8 0 0 = iN (min 6 (n + 1))) (x6 : N1.1 8 0 1 = iN ((nx + 1) % 6)) (x7 : K3 (fun c e j => (e = 2 + nx ∧ 20 ≤ c ∧ c < 32) ∨ (c = 8 ∧ e = 0 ∧ j < 2)) M N1)
    (k1 : K3 P1 N1 N3) (n1 : NoPast P1) (w3 : N3.1 101 0 = M.1 101 0)
    (s2 : N4.1 100 0 4 = iN (min 6 (m + 1))) (s4 : ∀ k, k < 229 → N4.1 103 0 (229 * (min 6 (m + 1) - 1) + k) = N3.1 101 0 k) (s5 : ∀ t k, 1 ≤ t → t < min 6 (m + 1) → k < 229 → N4.1 103 0 (229 * (min 6 (m + 1) - 1 - t) + k) = N3.1 103 0 (229 * (m - t) + k)) (s6 : K3 (fun c a j => (c = 103 ∧ a = 0) ∨ (c = 100 ∧ a = 0 ∧ (j = 4 ∨ j = 26))) N3 N4)
    (k2 : K3 P2 N4 N5) (n2 : NoPast P2) (hl : lc ≤ lc2) (hs : ShW (M.1 101 0) (N5.1 101 0) lc) : PastJ B N5 (min 6 (n + 1)) (min 6 (m + 1)) (min 6 (j + 1)) ((nx + 1) % 6) lc2 := by
  have c51 : ∀ c a, 20 ≤ c → c < 32 → 2 ≤ a → N5.1 c a = N1.1 c a := fun c a q1 q2 q3 => by rw [k3_col k2 (fun j z => (n2 c a j z).2.2.2 ⟨q1, q2, q3⟩), k3_col s6 (fun _ => by omega), k3_col k1 (fun j z => (n1 c a j z).2.2.2 ⟨q1, q2, q3⟩)]
  have p51 : ∀ j, N5.1 8 0 j = N1.1 8 0 j := fun j => by rw [k2 8 0 j (fun z => (n2 _ _ _ z).1 rfl), s6 8 0 j (by omega), k1 8 0 j (fun z => (n1 _ _ _ z).1 rfl)]
  have b54 : ∀ i, N5.1 103 0 i = N4.1 103 0 i := fun i => k2 103 0 i (fun z => (n2 _ _ _ z).2.1 rfl)
  have b30 : ∀ i, N3.1 103 0 i = M.1 103 0 i := fun i => by rw [k1 103 0 i (fun z => (n1 _ _ _ z).2.1 rfl), x7 103 0 i (by omega)]
  refine PastJ.keep (M := M) hp hw hl hs ?_ ?_ ?_ ?_ ?_ (fun j hj => ?_) (fun k hk => ?_) (fun t k q1 q2 q3 => ?_) (fun c a q1 q2 q3 q4 q5 => ?_)
  · rw [p51, x5]
  · rw [p51, x6]
  · rw [k2 100 0 4 (fun z => (n2 _ _ _ z).2.2.1 ⟨rfl, rfl, rfl⟩), s2]
  · rw [← x2]
    exact TC_of (fun c q1 q2 => c51 c _ q1 (by omega) (by omega))
  · rw [c51 30 _ (by decide) (by decide) (by omega), x3]
  · rw [c51 31 _ (by decide) (by decide) (by omega), x4 j hj]
  · rw [b54, s4 k hk, w3]
  · rw [b54, s5 t k q1 q2 q3, b30]
  · rw [c51 c a q1 q2 q3, k3_col x7 (fun _ => by omega)]
theorem NoPast_v : NoPast (Wv 0) := by
  intro c a j h
  simp only [Wv, Wk] at h
  omega
theorem NoPast_m : NoPast Wm := by
  intro c a j h
  simp only [Wm] at h
  omega
theorem bit_x : ∀ e : Nat, e < 8 → ∀ k : Nat, k < 256 → (iN k ^^^ ((1 : Int32) <<< (iN e &&& 31)) = iN (k ^^^ 2 ^ e)) ∧ ∀ i : Nat, i < 8 → (iN (k ^^^ 2 ^ e) >>> iN i) &&& 1 = if i = e then 1 - ((iN k >>> iN i) &&& 1) else (iN k >>> iN i) &&& 1 := by decide +kernel
/-- what act may do -/
def canS (T : Ld) (n6 : Nat) (w u : Int32) : Bool :=
  if w = 0 then has u (iN n6) 8 else if w = 1 then (has u (iN n6) 8 && decide (T 23 (ix u) = 0)) else if w = 2 then (has u (iN n6) 8 && decide (T 23 (ix u) = 1)) else if w = 3 then decide (T 20 2 = 0) else if w = 4 then decide (T 20 2 = 1) else false
theorem c105 {X : Cx} {d : Nat} {M : Mem} {n6 : Nat} {w u : Int32} (hn : n6 ≤ 8) (h6 : M.1 20 0 6 = iN n6) : CC X (d + 2) 105 [vR 2 0, vI w, vI u] M (some (vI (bI (canS (TC M 0) n6 w u)))) M := by
  have t2 : TC M 0 20 2 = M.1 20 0 2 := TC20 (by decide)
  have cd := c56 (X := X) (d := d) (M := M) (a := 0) (v := u)
  rw [h6] at cd
  have st1 : ∀ {j : Nat}, j < n6 → TC M 0 23 j = M.1 23 0 j := fun hj => TC_rd (by simp [okC]; omega)
  unfold canS
  rw [t2]
  refine e105 (w105_0 ?_)
  by_cases w0 : w = 0
  · subst w0
    simp only [forall_eq, true_implies, false_implies, not_true_eq_false, not_false_eq_true, and_true, true_and, and_self, isB0, isB1, bI_t0, bI_f0, i10_, i20_, i01_, i02_, i12_, i21_, if_true]
    exact ⟨_, _, cd, isB_bI _, rfl, rfl⟩
  · by_cases w1 : w = 1
    · subst w1
      simp only [forall_eq, true_implies, false_implies, not_true_eq_false, not_false_eq_true, and_true, true_and, and_self, isB0, isB1, bI_t0, bI_f0, i10_, i20_, i01_, i02_, i12_, i21_, if_true, if_false]
      refine ⟨_, _, cd, ?_⟩
      by_cases hu : has u (iN n6) 8 = true
      · obtain ⟨e, rfl, he⟩ := has_lt (k := 8) hn (by decide) hu
        rw [hu, ix_of (by omega), st1 he]
        simp only [forall_eq, true_implies, false_implies, not_true_eq_false, not_false_eq_true, and_true, true_and, and_self, isB0, isB1, bI_t0, bI_f0, i10_, i20_, i01_, i02_, i12_, i21_, show inb (iN e) 8 from inb_of (by omega) (by decide), ix_of (show e < 2147483648 by omega), Bool.true_and]
        by_cases h : M.1 23 0 e = 0 <;> simp [h, bI]
      · have hu : has u (iN n6) 8 = false := by simpa using hu
        rw [hu]
        simp only [forall_eq, true_implies, false_implies, not_true_eq_false, not_false_eq_true, and_true, true_and, and_self, isB0, isB1, bI_t0, bI_f0, i10_, i20_, i01_, i02_, i12_, i21_, Bool.false_and]
        rfl
    · by_cases w2 : w = 2
      · subst w2
        simp only [forall_eq, true_implies, false_implies, not_true_eq_false, not_false_eq_true, and_true, true_and, and_self, isB0, isB1, bI_t0, bI_f0, i10_, i20_, i01_, i02_, i12_, i21_, if_true, if_false]
        refine ⟨_, _, cd, ?_⟩
        by_cases hu : has u (iN n6) 8 = true
        · obtain ⟨e, rfl, he⟩ := has_lt (k := 8) hn (by decide) hu
          rw [hu, ix_of (by omega), st1 he]
          simp only [forall_eq, true_implies, false_implies, not_true_eq_false, not_false_eq_true, and_true, true_and, and_self, isB0, isB1, bI_t0, bI_f0, i10_, i20_, i01_, i02_, i12_, i21_, show inb (iN e) 8 from inb_of (by omega) (by decide), ix_of (show e < 2147483648 by omega), Bool.true_and]
          by_cases h : M.1 23 0 e = 1 <;> simp [h, bI]
        · have hu : has u (iN n6) 8 = false := by simpa using hu
          rw [hu]
          simp only [forall_eq, true_implies, false_implies, not_true_eq_false, not_false_eq_true, and_true, true_and, and_self, isB0, isB1, bI_t0, bI_f0, i10_, i20_, i01_, i02_, i12_, i21_, Bool.false_and]
          rfl
      · by_cases w3 : w = 3
        · subst w3
          simp only [forall_eq, true_implies, false_implies, not_true_eq_false, not_false_eq_true, and_true, true_and, and_self, isB0, isB1, bI_t0, bI_f0, i10_, i20_, i01_, i02_, i12_, i21_, w0, w1, w2, if_true, if_false]
          by_cases h : M.1 20 0 2 = 0 <;> simp [h, bI]
        · by_cases w4 : w = 4
          · subst w4
            simp only [forall_eq, true_implies, false_implies, not_true_eq_false, not_false_eq_true, and_true, true_and, and_self, isB0, isB1, bI_t0, bI_f0, i10_, i20_, i01_, i02_, i12_, i21_, w0, w1, w2, w3, if_true, if_false]
            by_cases h : M.1 20 0 2 = 1 <;> simp [h, bI]
          · simp only [forall_eq, true_implies, false_implies, not_true_eq_false, not_false_eq_true, and_true, true_and, and_self, isB0, isB1, bI_t0, bI_f0, i10_, i20_, i01_, i02_, i12_, i21_, w0, w1, w2, w3, w4, if_false]
            rfl
theorem c221 {X : Cx} {d : Nat} {M : Mem} {n6 : Nat} {w u : Int32} (hn : n6 ≤ 8) (h6 : M.1 101 0 230 = iN n6) : CC X (d + 3) 221 [vR 100 0, vI w, vI u] M (some (vI (bI (canS (TM M) n6 w u)))) M := by
  have t2 : M.1 101 0 1 = TM M 20 2 := TW_c (c := 20) (j := 2) (by decide)
  have cd := c156 (X := X) (d := d) (M := M) (v := u) h6 hn
  unfold canS
  refine e221 (w221_0 ?_)
  by_cases w0 : w = 0
  · subst w0
    simp only [forall_eq, true_implies, false_implies, not_true_eq_false, not_false_eq_true, and_true, true_and, and_self, isB0, isB1, bI_t0, bI_f0, i10_, i20_, i01_, i02_, i12_, i21_, if_true]
    exact ⟨_, _, cd, isB_bI _, rfl, rfl⟩
  · by_cases w1 : w = 1
    · subst w1
      simp only [forall_eq, true_implies, false_implies, not_true_eq_false, not_false_eq_true, and_true, true_and, and_self, isB0, isB1, bI_t0, bI_f0, i10_, i20_, i01_, i02_, i12_, i21_, if_true, if_false]
      refine ⟨_, _, cd, ?_⟩
      by_cases hu : has u (iN n6) 8 = true
      · obtain ⟨e, rfl, he⟩ := has_lt (k := 8) hn (by decide) hu
        rw [hu, ix_of (by omega)]
        simp only [forall_eq, true_implies, false_implies, not_true_eq_false, not_false_eq_true, and_true, true_and, and_self, isB0, isB1, bI_t0, bI_f0, i10_, i20_, i01_, i02_, i12_, i21_, Bool.true_and]
        refine ⟨_, _, c158 (by omega), ?_⟩
        rcases TM23 (w := M.1 101 0) (e := e) with h | h <;> simp [h, bI]
      · have hu : has u (iN n6) 8 = false := by simpa using hu
        rw [hu]
        simp only [forall_eq, true_implies, false_implies, not_true_eq_false, not_false_eq_true, and_true, true_and, and_self, isB0, isB1, bI_t0, bI_f0, i10_, i20_, i01_, i02_, i12_, i21_, Bool.false_and]
        rfl
    · by_cases w2 : w = 2
      · subst w2
        simp only [forall_eq, true_implies, false_implies, not_true_eq_false, not_false_eq_true, and_true, true_and, and_self, isB0, isB1, bI_t0, bI_f0, i10_, i20_, i01_, i02_, i12_, i21_, if_true, if_false]
        refine ⟨_, _, cd, ?_⟩
        by_cases hu : has u (iN n6) 8 = true
        · obtain ⟨e, rfl, he⟩ := has_lt (k := 8) hn (by decide) hu
          rw [hu, ix_of (by omega)]
          simp only [forall_eq, true_implies, false_implies, not_true_eq_false, not_false_eq_true, and_true, true_and, and_self, isB0, isB1, bI_t0, bI_f0, i10_, i20_, i01_, i02_, i12_, i21_, Bool.true_and]
          refine ⟨_, _, c158 (by omega), ?_⟩
          rcases TM23 (w := M.1 101 0) (e := e) with h | h <;> simp [h, bI]
        · have hu : has u (iN n6) 8 = false := by simpa using hu
          rw [hu]
          simp only [forall_eq, true_implies, false_implies, not_true_eq_false, not_false_eq_true, and_true, true_and, and_self, isB0, isB1, bI_t0, bI_f0, i10_, i20_, i01_, i02_, i12_, i21_, Bool.false_and]
          rfl
      · simp only [forall_eq, true_implies, false_implies, not_true_eq_false, not_false_eq_true, and_true, true_and, and_self, isB0, isB1, bI_t0, bI_f0, i10_, i20_, i01_, i02_, i12_, i21_, w0, w1, w2, if_false]
        refine ⟨_, _, c151, ?_⟩
        by_cases w3 : w = 3
        · subst w3
          rw [show inR 3 3 4 = true from by decide]
          simp only [forall_eq, true_implies, false_implies, not_true_eq_false, not_false_eq_true, and_true, true_and, and_self, isB0, isB1, bI_t0, bI_f0, i10_, i20_, i01_, i02_, i12_, i21_, show inb 1 2129 from inb_l (by decide) (by decide), show ix 1 = 1 from ix_l (by decide), t2, show (3 : Int32) - 3 = 0 from by decide, if_true]
          by_cases h : TM M 20 2 = 0 <;> simp [h, bI]
        · by_cases w4 : w = 4
          · subst w4
            rw [show inR 4 3 4 = true from by decide]
            simp only [forall_eq, true_implies, false_implies, not_true_eq_false, not_false_eq_true, and_true, true_and, and_self, isB0, isB1, bI_t0, bI_f0, i10_, i20_, i01_, i02_, i12_, i21_, show inb 1 2129 from inb_l (by decide) (by decide), show ix 1 = 1 from ix_l (by decide), t2, show (4 : Int32) - 3 = 1 from by decide, show ((4 : Int32) = 3) = False from by decide, if_true, if_false]
            by_cases h : TM M 20 2 = 1 <;> simp [h, bI]
          · have hr : inR w 3 4 = false := by
              cases hh : inR w 3 4 with
              | false => rfl
              | true =>
                simp only [inR, Bool.and_eq_true, decide_eq_true_eq] at hh
                have a0 : (0 : Int32) ≤ w := by
                  have : (0 : Int32) ≤ 3 := by decide
                  grind
                obtain ⟨k, rfl, hk, -⟩ := iN_of a0
                have b1 := (iN_le (a := 3) (by decide) hk).mp hh.1
                have b2 := (iN_le (b := 4) hk (by decide)).mp hh.2
                rcases (show k = 3 ∨ k = 4 by omega) with rfl | rfl
                · exact absurd rfl w3
                · exact absurd rfl w4
            rw [hr]
            simp only [forall_eq, true_implies, false_implies, not_true_eq_false, not_false_eq_true, and_true, true_and, and_self, isB0, isB1, bI_t0, bI_f0, i10_, i20_, i01_, i02_, i12_, i21_, w3, w4, if_false]
            rfl
