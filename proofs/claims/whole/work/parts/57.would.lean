/-! would and many -/
theorem digs1 {f : Nat} (hf : f < 10) : digs (10 + f) 1 = [f] := by
  show [(10 + f) / 10 ^ 0 % 10] = [f]
  rw [Nat.pow_zero, Nat.div_one]
  congr 1
  omega
theorem ByR_1 {M : Mem} {f : Nat} : ByR (st (st M 111 0 0 (iN f)) 100 0 28 1) [f] := by
  refine ⟨by simp, st_at, fun j g hj => ?_⟩
  rcases j with _ | j
  · have : f = g := by simpa using hj
    subst this
    rw [st_ne3 (fun z => absurd z.1 (by decide)), st_at]
  · simp at hj
theorem c239 {X : Cx} {d : Nat} {M : Mem} {n5 n6 n7 : Nat} {p f e : Int32} (h5 : M.1 101 0 229 = iN n5) (h6 : M.1 101 0 230 = iN n6) (h7 : M.1 101 0 231 = iN n7) (q5 : n5 ≤ 10) (q6 : n6 ≤ 8) (q7 : n7 ≤ 12) : CC X (d + 3) 239 [vR 100 0, vI p, vI f, vI e] M (some (vI (bI (has p (iN n7) 12 && has f (iN n5) 10 && has e (iN n6) 8)))) M :=
  e239 (w239_0 ⟨_, _, c157 h7 q7, bI_if (fun h => ⟨isB0, by rw [h]; rfl, rfl⟩) (fun h => ⟨_, _, c155 h5 q5, bI_if (fun h2 => ⟨isB0, by rw [h, h2]; rfl, rfl⟩) (fun h2 => ⟨_, _, c156 h6 q6, bI_if (fun h3 => ⟨isB0, by rw [h, h2, h3]; rfl, rfl⟩) (fun h3 => ⟨isB1, by rw [h, h2, h3]; rfl, rfl⟩)⟩)⟩)⟩)
/-- a call in thought, by one field, in the class -/
theorem c90_th {X : Cx} {d : Nat} {M : Mem} {B n5 n6 n7 p e R k : Nat} {L : Lw} (hL : LawC M 0 L) (hLT : LawT L) (hv : VTn B (TC M 1) n5 n6 n7) (hp : p < n7) (he : e < n6) (hk0 : 1 ≤ k) (hk : k ≤ 6) (h1 : 10 ^ k ≤ R) (h2 : R < 2 * 10 ^ k) (hf : ∀ f, f ∈ digs R k → f < n5) (h3 : M.1 11 1 3 = 1) (hb1 : M.1 30 1 0 = 0) : ∃ M', CC X (d + 6) 90 [vR 11 1, vI (iN p), vI (iN R), vI (iN e)] M (some (vI (visitS L (TC M 1) n6 p (digs R k) e false).2.1)) M' ∧ TC M' 1 = (visitS L (TC M 1) n6 p (digs R k) e false).1 ∧ M'.1 11 1 5 = iN (visitS L (TC M 1) n6 p (digs R k) e false).2.2 ∧ K3 ThC M M' := by
  obtain ⟨M', y1, y2, y3, y4, y5⟩ := c90 (X := X) (d := d) (M := M) (a := 1) (p := p) (e := e) (R := R) (k := k) (real := false) (s := (0, M.1 31 1)) hL hLT hv hp he h3 hk0 hk h1 h2 hf ⟨Nat.zero_le _, hb1, rfl⟩
  exact ⟨M', y1, y2, y3, th_c y5 (m := 0) hb1 y4⟩
/-- a call in thought in the reference -/
theorem c216_th {X : Cx} {d : Nat} {M : Mem} {B n5 n6 n7 p e lc : Nat} {L : Lw} {fs : List Nat} (hL : LawM (M.1 101 0) L) (hLT : LawT L) (hv : VTn B (TM M) n5 n6 n7) (hp : p < n7) (he : e < n6) (hr : M.1 100 0 26 = 0) (hby : ByR M fs) (hf : ∀ f, f ∈ fs → f < n5) (hl : lc ≤ 150) (h5 : M.1 101 0 5 = iN lc) : ∃ M', CC X (d + 7) 216 [vR 100 0, vI (iN p), vI (iN e)] M (some (vI (visitS L (TM M) n6 p fs e false).2.1)) M' ∧ TM M' = (visitS L (TM M) n6 p fs e false).1 ∧ M'.1 100 0 29 = iN (visitS L (TM M) n6 p fs e false).2.2 ∧ M'.1 101 0 5 = iN lc ∧ M'.1 100 0 26 = 0 ∧ ByR M' fs ∧ M'.1 104 0 = M.1 104 0 ∧ K3 ThW M M' := by
  obtain ⟨M', y1, y2, y3, y4, y5⟩ := c216 (X := X) (d := d) (M := M) (p := p) (e := e) (L := L) (s := (lc, fun j => M.1 101 0 (645 + j))) (real := false) (fs := fs) hL hLT hv hp he hr hby hf ⟨hl, h5, fun _ _ => rfl⟩
  refine ⟨M', y1, y2, y3, y4.2.1, by rw [y5 100 0 26 (by simp [Wm])]; exact hr, ⟨hby.1, by rw [y5 100 0 28 (by simp [Wm])]; exact hby.2.1, fun j f hj => by rw [y5 111 0 j (by simp [Wm])]; exact hby.2.2 j f hj⟩, k3_col y5 (fun _ => by simp [Wm]), th_w (lc := lc) (k3_sub y5 (fun c a j z => Or.inl z)) y4⟩
theorem all3 {X : Cx} {M : Mem} {B n5 n6 n7 : Nat} {u v q : Int32} (vm : VTn B (TM M) n5 n6 n7) (hh : (has u (iN n7) 12 && has v (iN n5) 10 && has q (iN n6) 8) = true) : ∃ p f e : Nat, u = iN p ∧ v = iN f ∧ q = iN e ∧ p < n7 ∧ f < n5 ∧ e < n6 := by
  obtain ⟨-, -, -, q5, q6, q7⟩ := vt_m vm
  rw [Bool.and_eq_true, Bool.and_eq_true] at hh
  obtain ⟨p, rfl, hp⟩ := has_lt (k := 12) q7 (by decide) hh.1.1
  obtain ⟨f, rfl, hf⟩ := has_lt (k := 10) q5 (by decide) hh.1.2
  obtain ⟨e, rfl, he⟩ := has_lt (k := 8) q6 (by decide) hh.2
  exact ⟨p, f, e, rfl, rfl, rfl, hp, hf, he⟩
theorem op117 {X : Cx} {d : Nat} {M : Mem} {B lc : Nat} {u v q t : Int32} {L : Lw} (hw : WldL B M lc) (hLC : LawC M 0 L) (hLM : LawM (M.1 101 0) L) (hLT : LawT L) (h3 : M.1 11 1 3 = 1) (hb1 : M.1 30 1 0 = 0) : ∃ (x : Int32) (M1 M2 : Mem), CC X (d + 8) 117 [vR 2 0, vI u, vI v, vI q, vI t] M (some (vI x)) M1 ∧ CC X (d + 8) 240 [vR 100 0, vI u, vI v, vI q, vI t] M1 (some (vI x)) M2 ∧ K3 ThP M M2 := by
  have hT := hw.1
  obtain ⟨n5, n6, n7, vm, vc⟩ := VT_n hw.2.1 hT
  obtain ⟨c5, c6, c7, q5, q6, q7⟩ := vt_c vc
  obtain ⟨m5, m6, m7, -⟩ := vt_m vm
  have ca := c58 (X := X) (d := d + 5) (M := M) (a := 0) (p := u) (f := v) (e := q)
  rw [c5, c6, c7] at ca
  have ra (M1 : Mem) (h : M1.1 101 0 = M.1 101 0) := c239 (X := X) (d := d + 4) (M := M1) (p := u) (f := v) (e := q) (by rw [h]; exact m5) (by rw [h]; exact m6) (by rw [h]; exact m7) q5 q6 q7
  have cq := c146 (X := X) (d := d + 6) (M := M) (v := t) (lo := 0) (hi := 1)
  have rq (M1 : Mem) := c151 (X := X) (d := d + 6) (M := M1) (v := t) (lo := 0) (hi := 1)
  by_cases hh : (has u (iN n7) 12 && has v (iN n5) 10 && has q (iN n6) 8) = true
  · rw [hh] at ca ra
    by_cases ht : inR t 0 1 = true
    · rw [ht] at cq rq
      obtain ⟨p, f, e, rfl, rfl, rfl, hp, hf, he⟩ := all3 (X := X) vm hh
      have hdg : digs (10 + f) 1 = [f] := digs1 (by omega)
      have hfs : ∀ g, g ∈ [f] → g < n5 := fun g hg => by rw [List.mem_singleton] at hg; omega
      -- the class
      obtain ⟨C0, x1, x2, x3⟩ := c54 (X := X) (d := d + 6) (M := M) (a := 1) (b := 0) (by decide)
      rw [hT] at x2
      have k0 : K3 ThC M C0 := c54_th x3
      obtain ⟨C1, y1, y2, y3, y4⟩ := c90_th (X := X) (d := d + 1) (M := C0) (p := p) (e := e) (R := 10 + f) (k := 1) (hLC.kw (a := 0) k0 ThC_l) hLT (by rw [x2]; exact vm) hp he (by decide) (by decide) (by omega) (by omega) (by rw [hdg]; exact hfs) (by rw [k0 11 1 3 (by simp [ThC])]; exact h3) (by rw [k0 30 1 0 (by simp [ThC])]; exact hb1)
      rw [x2, hdg] at y1 y2 y3
      have kC := k3_trans k0 y4
      have wC : C1.1 101 0 = M.1 101 0 := k3_col kC (fun _ => by simp [ThC])
      -- the reference
      obtain ⟨R0, z1, z2, z3, z4⟩ := c236 (X := X) (d := d + 6) (M := C1)
      have wR0 : (st (st R0 111 0 0 (iN f)) 100 0 28 1).1 101 0 = M.1 101 0 := by rw [st_ne (fun z => absurd z.1 (by decide)), st_ne (fun z => absurd z.1 (by decide)), k3_col z4 (fun _ => by omega), wC]
      have TR0 : TM (st (st R0 111 0 0 (iN f)) 100 0 28 1) = TM M := by
        show TW ((st (st R0 111 0 0 (iN f)) 100 0 28 1).1 101 0) = TW (M.1 101 0)
        rw [wR0]
      obtain ⟨R1, s1, s2, s3, s4, s5, s6, s7, s8⟩ := c216_th (X := X) (d := d) (M := st (st R0 111 0 0 (iN f)) 100 0 28 1) (p := p) (e := e) (L := L) (fs := [f]) (lc := lc) (by rw [wR0]; exact hLM) hLT (by rw [TR0]; exact vm) hp he (by rw [st_ne3 (by omega), st_ne3 (fun z => absurd z.1 (by decide))]; exact z3) ByR_1 hfs hw.2.2.2.1 (by rw [wR0]; exact hw.2.2.2.2.2.1)
      rw [TR0] at s1 s2 s3
      obtain ⟨R2, t1, t2, t3⟩ := c237 (X := X) (d := d + 6) (M := R1)
      have kmid : K3 ThW R0 R1 := k3_trans (k3_trans (k3_st (Or.inl (Or.inr (Or.inr (Or.inl ⟨rfl, rfl⟩))))) (k3_st (Or.inl (Or.inr (Or.inr (Or.inr (Or.inr ⟨rfl, Or.inr (Or.inl rfl)⟩))))))) s8
      have kR : K3 ThR C1 R2 := th_back z2 z4 kmid (fun k hk => by rw [s7, st_ne3 (fun z => absurd z.1 (by decide)), st_ne3 (fun z => absurd z.1 (by decide))]) t2 t3
      have w29 : R2.1 100 0 29 = iN (visitS L (TM M) n6 p [f] e false).2.2 := by rw [t3 100 0 29 (by omega)]; exact s3
      refine ⟨if t = 0 then (visitS L (TM M) n6 p [f] e false).2.1 else iN (visitS L (TM M) n6 p [f] e false).2.2, C1, R2, e117 (w117_0 ⟨_, _, ca, ?_⟩), e240 (w240_0 ⟨_, _, ra C1 wC, ?_⟩), k3_trans (k3_sub kC (fun c a j z => Or.inl z)) (k3_sub kR (fun c a j z => Or.inr z))⟩
      · simp only [forall_eq, true_implies, false_implies, not_true_eq_false, not_false_eq_true, and_true, true_and, and_self, isB0, isB1, bI_t0, bI_f0, i10_, i20_, i01_, i02_, i12_, i21_]
        refine ⟨_, _, cq, ?_⟩
        simp only [forall_eq, true_implies, false_implies, not_true_eq_false, not_false_eq_true, and_true, true_and, and_self, isB0, isB1, bI_t0, bI_f0, i10_, i20_, i01_, i02_, i12_, i21_]
        refine ⟨_, x1, _, _, by rw [iN_lit 10, iN_add]; exact y1, ?_⟩
        by_cases h0 : t = 0
        · simp only [forall_eq, true_implies, false_implies, not_true_eq_false, not_false_eq_true, and_true, true_and, and_self, isB0, isB1, bI_t0, bI_f0, i10_, i20_, i01_, i02_, i12_, i21_, h0, if_true]
        · simp only [forall_eq, true_implies, false_implies, not_true_eq_false, not_false_eq_true, and_true, true_and, and_self, isB0, isB1, bI_t0, bI_f0, i10_, i20_, i01_, i02_, i12_, i21_, h0, if_false, y3]
      · simp only [forall_eq, true_implies, false_implies, not_true_eq_false, not_false_eq_true, and_true, true_and, and_self, isB0, isB1, bI_t0, bI_f0, i10_, i20_, i01_, i02_, i12_, i21_]
        refine ⟨_, _, rq C1, ?_⟩
        simp only [forall_eq, true_implies, false_implies, not_true_eq_false, not_false_eq_true, and_true, true_and, and_self, isB0, isB1, bI_t0, bI_f0, i10_, i20_, i01_, i02_, i12_, i21_]
        refine ⟨_, z1, inb_l (by decide) (by decide), ?_⟩
        rw [show ix 0 = 0 from ix_l (by decide)]
        refine ⟨_, _, s1, _, t1, ?_⟩
        by_cases h0 : t = 0
        · simp only [forall_eq, true_implies, false_implies, not_true_eq_false, not_false_eq_true, and_true, true_and, and_self, isB0, isB1, bI_t0, bI_f0, i10_, i20_, i01_, i02_, i12_, i21_, h0, if_true]
        · simp only [forall_eq, true_implies, false_implies, not_true_eq_false, not_false_eq_true, and_true, true_and, and_self, isB0, isB1, bI_t0, bI_f0, i10_, i20_, i01_, i02_, i12_, i21_, h0, if_false, w29]
    · have ht : inR t 0 1 = false := by simpa using ht
      rw [ht] at cq rq
      refine ⟨-1, M, M, e117 (w117_0 ⟨_, _, ca, ?_⟩), e240 (w240_0 ⟨_, _, ra M rfl, ?_⟩), k3_refl⟩
      · simp only [forall_eq, true_implies, false_implies, not_true_eq_false, not_false_eq_true, and_true, true_and, and_self, isB0, isB1, bI_t0, bI_f0, i10_, i20_, i01_, i02_, i12_, i21_]
        refine ⟨_, _, cq, ?_⟩
        simp only [forall_eq, true_implies, false_implies, not_true_eq_false, not_false_eq_true, and_true, true_and, and_self, isB0, isB1, bI_t0, bI_f0, i10_, i20_, i01_, i02_, i12_, i21_]
      · simp only [forall_eq, true_implies, false_implies, not_true_eq_false, not_false_eq_true, and_true, true_and, and_self, isB0, isB1, bI_t0, bI_f0, i10_, i20_, i01_, i02_, i12_, i21_]
        refine ⟨_, _, rq M, ?_⟩
        simp only [forall_eq, true_implies, false_implies, not_true_eq_false, not_false_eq_true, and_true, true_and, and_self, isB0, isB1, bI_t0, bI_f0, i10_, i20_, i01_, i02_, i12_, i21_]
  · have hh : (has u (iN n7) 12 && has v (iN n5) 10 && has q (iN n6) 8) = false := by simpa using hh
    rw [hh] at ca ra
    refine ⟨-1, M, M, e117 (w117_0 ⟨_, _, ca, ?_⟩), e240 (w240_0 ⟨_, _, ra M rfl, ?_⟩), k3_refl⟩
    · simp only [forall_eq, true_implies, false_implies, not_true_eq_false, not_false_eq_true, and_true, true_and, and_self, isB0, isB1, bI_t0, bI_f0, i10_, i20_, i01_, i02_, i12_, i21_]
    · simp only [forall_eq, true_implies, false_implies, not_true_eq_false, not_false_eq_true, and_true, true_and, and_self, isB0, isB1, bI_t0, bI_f0, i10_, i20_, i01_, i02_, i12_, i21_]
/-- how many calls: t are left -/
def mnyS (L : Lw) (n6 p f e : Nat) (n : Int32) : Nat → Ld → Int32
  | 0, _ => -1
  | t + 1, T => if T 24 (e * 10 + f) < n then mnyS L n6 p f e n t (visitS L T n6 p [f] e false).1 else iN (99 - t)
theorem c118_run {X : Cx} {d p f e n5 n6 n7 : Nat} {n : Int32} {L : Lw} (hLT : LawT L) (hp : p < n7) (hf : f < n5) (he : e < n6) : ∀ (t B : Nat) (M : Mem), t ≤ 100 → LawC M 0 L → VTn B (TC M 1) n5 n6 n7 → M.1 11 1 3 = 1 → M.1 30 1 0 = 0 → ∃ M', K3 ThC M M' ∧ ∀ Q : Option Vl → Mem → Prop, Q (some (vI (mnyS L n6 p f e n t (TC M 1)))) M' → V X (d + 8) 118 41 [some (vR 2 0), some (vI (iN p)), some (vI (iN f)), some (vI (iN e)), some (vI n), some (vI (iN (100 - t)))] [] M Q
  | 0, B, M, ht, hL, hv, h3, hb1 => ⟨M, k3_refl, fun Q hQ => w118_41 ⟨fun _ => hQ, fun z => absurd (by decide) z⟩⟩
  | t + 1, B, M, ht, hL, hv, h3, hb1 => by
    obtain ⟨c5, c6, c7, q5, q6, q7⟩ := vt_c hv
    have hh : M.1 24 1 (e * 10 + f) = TC M 1 24 (e * 10 + f) := (TC_rd (okT24 (by omega) (by omega))).symm
    have f1 : (99 < iN (100 - (t + 1))) = False := nlt_ (a := 99) (by decide) (by omega) (by omega)
    have b1 : inb (iN (e * 10 + f)) 80 := inb_of (by omega) (by decide)
    have x1 : ix (iN (e * 10 + f)) = e * 10 + f := ix_of (by omega)
    by_cases hlt : TC M 1 24 (e * 10 + f) < n
    · have hfs : ∀ g, g ∈ [f] → g < n5 := fun g hg => by rw [List.mem_singleton] at hg; omega
      have hdg : digs (10 + f) 1 = [f] := digs1 (by omega)
      obtain ⟨C1, y1, y2, y3, y4⟩ := c90_th (X := X) (d := d + 1) (M := M) (p := p) (e := e) (R := 10 + f) (k := 1) hL hLT hv hp he (by decide) (by decide) (by omega) (by omega) (by rw [hdg]; exact hfs) h3 hb1
      rw [hdg] at y1 y2
      have vis := visitS_v (L := L) (real := false) hv hp he hfs
      obtain ⟨M', z1, z2⟩ := c118_run (X := X) (d := d) (n := n) hLT hp hf he t (B + 90) C1 (by omega) (hL.kw (a := 0) y4 ThC_l) (by rw [y2]; exact vis.1) (by rw [y4 11 1 3 (by simp [ThC])]; exact h3) (by rw [y4 30 1 0 (by simp [ThC])]; exact hb1)
      have es : mnyS L n6 p f e n (t + 1) (TC M 1) = mnyS L n6 p f e n t (visitS L (TC M 1) n6 p [f] e false).1 := if_pos hlt
      rw [y2] at z2
      refine ⟨M', k3_trans y4 z1, fun Q hQ => w118_41 ?_⟩
      rw [es] at hQ
      simp only [forall_eq, true_implies, false_implies, not_true_eq_false, not_false_eq_true, and_true, true_and, and_self, isB0, isB1, bI_t0, bI_f0, i10_, i20_, i01_, i02_, i12_, i21_, f1, iN_10, b1, x1, hh, hlt, iN_step]
      refine ⟨_, _, by rw [iN_lit 10, iN_add]; exact y1, ?_⟩
      rw [show 100 - (t + 1) + 1 = 100 - t by omega]
      exact z2 Q hQ
    · have es : mnyS L n6 p f e n (t + 1) (TC M 1) = iN (99 - t) := if_neg hlt
      refine ⟨M, k3_refl, fun Q hQ => w118_41 ?_⟩
      rw [es] at hQ
      simp only [forall_eq, true_implies, false_implies, not_true_eq_false, not_false_eq_true, and_true, true_and, and_self, isB0, isB1, bI_t0, bI_f0, i10_, i20_, i01_, i02_, i12_, i21_, f1, iN_10, b1, x1, hh, hlt]
      rw [show 100 - (t + 1) = 99 - t by omega]
      exact hQ
theorem c241_run {X : Cx} {d p f e n5 n6 n7 lc : Nat} {n : Int32} {L : Lw} (hLT : LawT L) (hp : p < n7) (hf : f < n5) (he : e < n6) (hl : lc ≤ 150) : ∀ (t B : Nat) (M : Mem), t ≤ 100 → LawM (M.1 101 0) L → VTn B (TM M) n5 n6 n7 → M.1 100 0 26 = 0 → ByR M [f] → M.1 101 0 5 = iN lc → ∃ M', M'.1 104 0 = M.1 104 0 ∧ K3 ThW M M' ∧ ∀ Q : Option Vl → Mem → Prop, (∃ M2, CC X (d + 7) 237 [vR 100 0] M' none M2 ∧ Q (some (vI (mnyS L n6 p f e n t (TM M)))) M2) → V X (d + 8) 241 43 [some (vR 100 0), some (vI (iN p)), some (vI (iN f)), some (vI (iN e)), some (vI n), some (vI (iN (100 - t)))] [] M Q
  | 0, B, M, ht, hL, hv, h26, hby, h5 => ⟨M, rfl, k3_refl, fun Q hQ => by
      obtain ⟨M2, a1, a2⟩ := hQ
      exact w241_43 ⟨fun _ => ⟨M2, a1, fun z => absurd rfl z, fun _ => a2⟩, fun z => absurd (by decide) z⟩⟩
  | t + 1, B, M, ht, hL, hv, h26, hby, h5 => by
    obtain ⟨c5, c6, c7, q5, q6, q7⟩ := vt_m hv
    have hh : M.1 101 0 (29 + (e * 10 + f)) = TM M 24 (e * 10 + f) := TW_c (okT24 (by omega) (by omega))
    have f1 : (100 ≤ iN (100 - (t + 1))) = False := nle_ (a := 100) (by decide) (by omega) (by omega)
    have f2 : (iN (100 - (t + 1)) = 100) = False := neq_ (b := 100) (by omega) (by decide) (by omega)
    have b1 : inb (iN (29 + (e * 10 + f))) 2129 := inb_of (by omega) (by decide)
    have x1 : ix (iN (29 + (e * 10 + f))) = 29 + (e * 10 + f) := ix_of (by omega)
    by_cases hlt : TM M 24 (e * 10 + f) < n
    · have hfs : ∀ g, g ∈ [f] → g < n5 := fun g hg => by rw [List.mem_singleton] at hg; omega
      obtain ⟨C1, y1, y2, y3, y4, y5, y6, y7, y8⟩ := c216_th (X := X) (d := d) (M := M) (p := p) (e := e) (lc := lc) (fs := [f]) hL hLT hv hp he h26 hby hfs hl h5
      have vis := visitS_v (L := L) (real := false) hv hp he hfs
      obtain ⟨M', z0, z1, z2⟩ := c241_run (X := X) (d := d) (n := n) hLT hp hf he hl t (B + 90) C1 (by omega) (hL.th y8 ThW_w) (by rw [y2]; exact vis.1) y5 y6 y4
      have es : mnyS L n6 p f e n (t + 1) (TM M) = mnyS L n6 p f e n t (visitS L (TM M) n6 p [f] e false).1 := if_pos hlt
      rw [y2] at z2
      refine ⟨M', z0.trans y7, k3_trans y8 z1, fun Q hQ => w241_43 ?_⟩
      rw [es] at hQ
      have nl : (n ≤ TM M 24 (e * 10 + f)) = False := eq_false (Int32.not_le.mpr hlt)
      simp only [forall_eq, true_implies, false_implies, not_true_eq_false, not_false_eq_true, and_true, true_and, and_self, isB0, isB1, bI_t0, bI_f0, i10_, i20_, i01_, i02_, i12_, i21_, f1, iN_29, b1, x1, hh, nl, iN_step]
      refine ⟨_, _, y1, ?_⟩
      rw [show 100 - (t + 1) + 1 = 100 - t by omega]
      exact z2 Q hQ
    · have es : mnyS L n6 p f e n (t + 1) (TM M) = iN (99 - t) := if_neg hlt
      refine ⟨M, rfl, k3_refl, fun Q hQ => w241_43 ?_⟩
      rw [es] at hQ
      have nl : (n ≤ TM M 24 (e * 10 + f)) = True := eq_true (Int32.not_lt.mp hlt)
      simp only [forall_eq, true_implies, false_implies, not_true_eq_false, not_false_eq_true, and_true, true_and, and_self, isB0, isB1, bI_t0, bI_f0, i10_, i20_, i01_, i02_, i12_, i21_, f1, f2, iN_29, b1, x1, hh, nl]
      rw [show 100 - (t + 1) = 99 - t by omega]
      exact hQ
theorem op118 {X : Cx} {d : Nat} {M : Mem} {B lc : Nat} {u v q t : Int32} {L : Lw} (hw : WldL B M lc) (hLC : LawC M 0 L) (hLM : LawM (M.1 101 0) L) (hLT : LawT L) (h3 : M.1 11 1 3 = 1) (hb1 : M.1 30 1 0 = 0) : ∃ (x : Int32) (M1 M2 : Mem), CC X (d + 8) 118 [vR 2 0, vI u, vI v, vI q, vI t] M (some (vI x)) M1 ∧ CC X (d + 8) 241 [vR 100 0, vI u, vI v, vI q, vI t] M1 (some (vI x)) M2 ∧ K3 ThP M M2 := by
  have hT := hw.1
  obtain ⟨n5, n6, n7, vm, vc⟩ := VT_n hw.2.1 hT
  obtain ⟨c5, c6, c7, q5, q6, q7⟩ := vt_c vc
  obtain ⟨m5, m6, m7, -⟩ := vt_m vm
  have ca := c58 (X := X) (d := d + 5) (M := M) (a := 0) (p := u) (f := v) (e := q)
  rw [c5, c6, c7] at ca
  have ra (M1 : Mem) (h : M1.1 101 0 = M.1 101 0) := c239 (X := X) (d := d + 4) (M := M1) (p := u) (f := v) (e := q) (by rw [h]; exact m5) (by rw [h]; exact m6) (by rw [h]; exact m7) q5 q6 q7
  have cq := c146 (X := X) (d := d + 6) (M := M) (v := t) (lo := 1) (hi := 9999)
  have rq (M1 : Mem) := c151 (X := X) (d := d + 6) (M := M1) (v := t) (lo := 1) (hi := 9999)
  by_cases hh : (has u (iN n7) 12 && has v (iN n5) 10 && has q (iN n6) 8) = true
  · rw [hh] at ca ra
    by_cases ht : inR t 1 9999 = true
    · rw [ht] at cq rq
      obtain ⟨p, f, e, rfl, rfl, rfl, hp, hf, he⟩ := all3 (X := X) vm hh
      obtain ⟨C0, x1, x2, x3⟩ := c54 (X := X) (d := d + 6) (M := M) (a := 1) (b := 0) (by decide)
      rw [hT] at x2
      have k0 : K3 ThC M C0 := c54_th x3
      obtain ⟨C1, y1, y2⟩ := c118_run (X := X) (d := d) (n := t) hLT hp hf he 100 B C0 (by decide) (hLC.kw (a := 0) k0 ThC_l) (by rw [x2]; exact vm) (by rw [k0 11 1 3 (by simp [ThC])]; exact h3) (by rw [k0 30 1 0 (by simp [ThC])]; exact hb1)
      rw [x2] at y2
      have kC := k3_trans k0 y1
      have wC : C1.1 101 0 = M.1 101 0 := k3_col kC (fun _ => by simp [ThC])
      obtain ⟨R0, z1, z2, z3, z4⟩ := c236 (X := X) (d := d + 6) (M := C1)
      have wR0 : (st (st R0 111 0 0 (iN f)) 100 0 28 1).1 101 0 = M.1 101 0 := by rw [st_ne (fun z => absurd z.1 (by decide)), st_ne (fun z => absurd z.1 (by decide)), k3_col z4 (fun _ => by omega), wC]
      have TR0 : TM (st (st R0 111 0 0 (iN f)) 100 0 28 1) = TM M := by
        show TW ((st (st R0 111 0 0 (iN f)) 100 0 28 1).1 101 0) = TW (M.1 101 0)
        rw [wR0]
      obtain ⟨R1, s1, s2, s3⟩ := c241_run (X := X) (d := d) (n := t) hLT hp hf he hw.2.2.2.1 100 B (st (st R0 111 0 0 (iN f)) 100 0 28 1) (by decide) (by rw [wR0]; exact hLM) (by rw [TR0]; exact vm) (by rw [st_ne3 (by omega), st_ne3 (fun z => absurd z.1 (by decide))]; exact z3) ByR_1 (by rw [wR0]; exact hw.2.2.2.2.2.1)
      rw [TR0] at s3
      obtain ⟨R2, t1, t2, t3⟩ := c237 (X := X) (d := d + 6) (M := R1)
      have kmid : K3 ThW R0 R1 := k3_trans (k3_trans (k3_st (Or.inl (Or.inr (Or.inr (Or.inl ⟨rfl, rfl⟩))))) (k3_st (Or.inl (Or.inr (Or.inr (Or.inr (Or.inr ⟨rfl, Or.inr (Or.inl rfl)⟩))))))) s2
      have kR : K3 ThR C1 R2 := th_back z2 z4 kmid (fun k hk => by rw [s1, st_ne3 (fun z => absurd z.1 (by decide)), st_ne3 (fun z => absurd z.1 (by decide))]) t2 t3
      refine ⟨mnyS L n6 p f e t 100 (TM M), C1, R2, e118 (w118_0 ⟨_, _, ca, ?_⟩), e241 (w241_0 ⟨_, _, ra C1 wC, ?_⟩), k3_trans (k3_sub kC (fun c a j z => Or.inl z)) (k3_sub kR (fun c a j z => Or.inr z))⟩
      · simp only [forall_eq, true_implies, false_implies, not_true_eq_false, not_false_eq_true, and_true, true_and, and_self, isB0, isB1, bI_t0, bI_f0, i10_, i20_, i01_, i02_, i12_, i21_]
        refine ⟨_, _, cq, ?_⟩
        simp only [forall_eq, true_implies, false_implies, not_true_eq_false, not_false_eq_true, and_true, true_and, and_self, isB0, isB1, bI_t0, bI_f0, i10_, i20_, i01_, i02_, i12_, i21_]
        exact ⟨_, x1, y2 _ ⟨rfl, rfl⟩⟩
      · simp only [forall_eq, true_implies, false_implies, not_true_eq_false, not_false_eq_true, and_true, true_and, and_self, isB0, isB1, bI_t0, bI_f0, i10_, i20_, i01_, i02_, i12_, i21_]
        refine ⟨_, _, rq C1, ?_⟩
        simp only [forall_eq, true_implies, false_implies, not_true_eq_false, not_false_eq_true, and_true, true_and, and_self, isB0, isB1, bI_t0, bI_f0, i10_, i20_, i01_, i02_, i12_, i21_]
        refine ⟨_, z1, inb_l (by decide) (by decide), ?_⟩
        rw [show ix 0 = 0 from ix_l (by decide)]
        exact s3 _ ⟨_, t1, rfl, rfl⟩
    · have ht : inR t 1 9999 = false := by simpa using ht
      rw [ht] at cq rq
      refine ⟨-1, M, M, e118 (w118_0 ⟨_, _, ca, ?_⟩), e241 (w241_0 ⟨_, _, ra M rfl, ?_⟩), k3_refl⟩
      · simp only [forall_eq, true_implies, false_implies, not_true_eq_false, not_false_eq_true, and_true, true_and, and_self, isB0, isB1, bI_t0, bI_f0, i10_, i20_, i01_, i02_, i12_, i21_]
        refine ⟨_, _, cq, ?_⟩
        simp only [forall_eq, true_implies, false_implies, not_true_eq_false, not_false_eq_true, and_true, true_and, and_self, isB0, isB1, bI_t0, bI_f0, i10_, i20_, i01_, i02_, i12_, i21_]
      · simp only [forall_eq, true_implies, false_implies, not_true_eq_false, not_false_eq_true, and_true, true_and, and_self, isB0, isB1, bI_t0, bI_f0, i10_, i20_, i01_, i02_, i12_, i21_]
        refine ⟨_, _, rq M, ?_⟩
        simp only [forall_eq, true_implies, false_implies, not_true_eq_false, not_false_eq_true, and_true, true_and, and_self, isB0, isB1, bI_t0, bI_f0, i10_, i20_, i01_, i02_, i12_, i21_]
  · have hh : (has u (iN n7) 12 && has v (iN n5) 10 && has q (iN n6) 8) = false := by simpa using hh
    rw [hh] at ca ra
    refine ⟨-1, M, M, e118 (w118_0 ⟨_, _, ca, ?_⟩), e241 (w241_0 ⟨_, _, ra M rfl, ?_⟩), k3_refl⟩
    · simp only [forall_eq, true_implies, false_implies, not_true_eq_false, not_false_eq_true, and_true, true_and, and_self, isB0, isB1, bI_t0, bI_f0, i10_, i20_, i01_, i02_, i12_, i21_]
    · simp only [forall_eq, true_implies, false_implies, not_true_eq_false, not_false_eq_true, and_true, true_and, and_self, isB0, isB1, bI_t0, bI_f0, i10_, i20_, i01_, i02_, i12_, i21_]
