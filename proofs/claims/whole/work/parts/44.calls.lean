/-! a call, in the reference -/
def BkM (W : Nat → Int32) (s : Bk) : Prop := s.1 ≤ 150 ∧ W 5 = iN s.1 ∧ ∀ j, j < 600 → W (645 + j) = s.2 j
abbrev bkR (real : Bool) (s : Bk) (q : Qd) : Bk := if real = true then bkA s q else s
abbrev Wn : Nat → Nat → Nat → Prop := fun c a j => c = 101 ∧ a = 0 ∧ (j = 5 ∨ (645 ≤ j ∧ j < 1245))
theorem c213 {X : Cx} {d : Nat} {M : Mem} {s : Bk} {real : Bool} {x y z : Int32} (hr : M.1 100 0 26 = bI real) (h : BkM (M.1 101 0) s) : ∃ M', CC X (d + 1) 213 [vR 100 0, vI x, vI y, vI z] M none M' ∧ BkM (M'.1 101 0) (bkR real s (TM M 20 4, x, y, z)) ∧ TM M' = TM M ∧ K3 Wn M M' := by
  have t204 : M.1 101 0 3 = TM M 20 4 := TW_c (c := 20) (j := 4) (by decide)
  have i5 : inb 5 2129 := inb_l (by decide) (by decide)
  have i3 : inb 3 2129 := inb_l (by decide) (by decide)
  have x5 : ix 5 = 5 := ix_l (by decide)
  have x3 : ix 3 = 3 := ix_l (by decide)
  cases real with
  | false =>
    refine ⟨M, e213 (w213_0 ?_), h, rfl, k3_refl⟩
    rw [hr]
    simp only [forall_eq, true_implies, false_implies, not_true_eq_false, not_false_eq_true, and_true, true_and, and_self, isB0, isB1, bI_t0, bI_f0, i10_, i20_, i01_, i02_, i12_, i21_]
  | true =>
    obtain ⟨h1, h2, h3⟩ := h
    obtain ⟨n, F⟩ := s
    have h1 : n ≤ 150 := h1
    have h2 : M.1 101 0 5 = iN n := h2
    have h3 : ∀ j, j < 600 → M.1 101 0 (645 + j) = F j := h3
    by_cases hn : n < 150
    · have ea : bkR true (n, F) (TM M 20 4, x, y, z) = (n + 1, upd (upd (upd (upd F (4 * n) (TM M 20 4)) (4 * n + 1) x) (4 * n + 2) y) (4 * n + 3) z) := by
        unfold bkR bkA
        rw [if_pos rfl, if_pos hn]
      have q0 : 645 + 4 * iN n = iN (645 + 4 * n) := by simp only [iN_lit, iN_mul, iN_add]
      have q1 : iN (645 + 4 * n) + 1 = iN (645 + 4 * n + 1) := by simp only [iN_lit, iN_add]
      have q2 : iN (645 + 4 * n) + 2 = iN (645 + 4 * n + 2) := by simp only [iN_lit, iN_add]
      have q3 : iN (645 + 4 * n) + 3 = iN (645 + 4 * n + 3) := by simp only [iN_lit, iN_add]
      have kw : K3 Wn M (st (st (st (st (st M 101 0 (645 + 4 * n) (TM M 20 4)) 101 0 (645 + 4 * n + 1) x) 101 0 (645 + 4 * n + 2) y) 101 0 (645 + 4 * n + 3) z) 101 0 5 (iN (n + 1))) := k3_trans (k3_trans (k3_trans (k3_trans (k3_st ⟨rfl, rfl, by omega⟩) (k3_st ⟨rfl, rfl, by omega⟩)) (k3_st ⟨rfl, rfl, by omega⟩)) (k3_st ⟨rfl, rfl, by omega⟩)) (k3_st ⟨rfl, rfl, by omega⟩)
      rw [ea]
      refine ⟨st (st (st (st (st M 101 0 (645 + 4 * n) (TM M 20 4)) 101 0 (645 + 4 * n + 1) x) 101 0 (645 + 4 * n + 2) y) 101 0 (645 + 4 * n + 3) z) 101 0 5 (iN (n + 1)), e213 (w213_0 ?_), ⟨by show n + 1 ≤ 150; omega, st_at, fun j hj => ?_⟩, ?_, kw⟩
      · rw [hr]
        have m5 : (st (st (st (st M 101 0 (645 + 4 * n) (TM M 20 4)) 101 0 (645 + 4 * n + 1) x) 101 0 (645 + 4 * n + 2) y) 101 0 (645 + 4 * n + 3) z).1 101 0 5 = iN n := by
          rw [st_ne3 (by omega), st_ne3 (by omega), st_ne3 (by omega), st_ne3 (by omega)]
          exact h2
        simp only [forall_eq, true_implies, false_implies, not_true_eq_false, not_false_eq_true, and_true, true_and, and_self, isB0, isB1, bI_t0, bI_f0, i10_, i20_, i01_, i02_, i12_, i21_, i5, i3, x5, x3, h2, t204, show (iN n = 150) = False from neq_ (b := 150) (by omega) (by decide) (by omega), q0, q1, q2, q3, show inb (iN (645 + 4 * n)) 2129 from inb_of (by omega) (by decide), show inb (iN (645 + 4 * n + 1)) 2129 from inb_of (by omega) (by decide), show inb (iN (645 + 4 * n + 2)) 2129 from inb_of (by omega) (by decide), show inb (iN (645 + 4 * n + 3)) 2129 from inb_of (by omega) (by decide), ix_of (show 645 + 4 * n < 2147483648 by omega), ix_of (show 645 + 4 * n + 1 < 2147483648 by omega), ix_of (show 645 + 4 * n + 2 < 2147483648 by omega), ix_of (show 645 + 4 * n + 3 < 2147483648 by omega), m5, iN_step]
      · show _ = upd (upd (upd (upd F (4 * n) (TM M 20 4)) (4 * n + 1) x) (4 * n + 2) y) (4 * n + 3) z j
        rw [st_ne3 (by omega)]
        by_cases c3 : j = 4 * n + 3
        · rw [c3, upd_at, show 645 + (4 * n + 3) = 645 + 4 * n + 3 by omega, st_at]
        · rw [st_ne3 (by omega), upd_ne c3]
          by_cases c2 : j = 4 * n + 2
          · rw [c2, upd_at, show 645 + (4 * n + 2) = 645 + 4 * n + 2 by omega, st_at]
          · rw [st_ne3 (by omega), upd_ne c2]
            by_cases c1 : j = 4 * n + 1
            · rw [c1, upd_at, show 645 + (4 * n + 1) = 645 + 4 * n + 1 by omega, st_at]
            · rw [st_ne3 (by omega), upd_ne c1]
              by_cases c0 : j = 4 * n
              · rw [c0, upd_at, st_at]
              · rw [st_ne3 (by omega), upd_ne c0]
                exact h3 j hj
      · rw [TM_book (by omega), TM_book (by omega), TM_book (by omega), TM_book (by omega), TM_book (by omega)]
    · have hn : n = 150 := by omega
      subst hn
      have ea : bkR true (150, F) (TM M 20 4, x, y, z) = (150, F) := by
        unfold bkR bkA
        rw [if_pos rfl, if_neg (Nat.lt_irrefl 150)]
      rw [ea]
      refine ⟨M, e213 (w213_0 ?_), ⟨h1, h2, h3⟩, rfl, k3_refl⟩
      rw [hr]
      simp only [forall_eq, true_implies, false_implies, not_true_eq_false, not_false_eq_true, and_true, true_and, and_self, isB0, isB1, bI_t0, bI_f0, i10_, i20_, i01_, i02_, i12_, i21_, i5, x5, h2, show (iN 150 = 150) = True from eq_true rfl]
theorem Wn_m : ∀ c a j, Wn c a j → Wm c a j := fun c a j h => Or.inr (Or.inr (Or.inr ⟨h.1, h.2.1, by have := h.2.2; omega, by have := h.2.2; omega⟩))
/-- from the wiping on -/
theorem c216_tail {X : Cx} {d : Nat} {M : Mem} {B n5 n6 n7 p w : Nat} {L : Lw} {s : Bk} {real : Bool} (hL : LawM (M.1 101 0) L) (hT : LawT L) (hv : VTn B (TM M) n5 n6 n7) (hp : p < n7) (hw : w < n6) (hr : M.1 100 0 26 = bI real) (h29 : M.1 100 0 29 = iN w) (hb : BkM (M.1 101 0) s) :
    ∃ M', TM M' = up2 (leaveS L (TM M) p w).1 28 p ((leaveS L (TM M) p w).1 28 p + 1) ∧ M'.1 100 0 29 = iN w ∧ BkM (M'.1 101 0) (bkL s (visE (TM M) p (up2 (leaveS L (TM M) p w).1 28 p ((leaveS L (TM M) p w).1 28 p + 1), (leaveS L (TM M) p w).2, w) real)) ∧ K3 Wm M M' ∧
      ∀ Q : Option Vl → Mem → Prop, Q (some (vI (leaveS L (TM M) p w).2)) M' → ∃ (M3 : Mem), CC X (d + 6) 213 [vR 100 0, vI 0, vI (iN p), vI (M.1 100 0 29)] M none M3 ∧ ∃ (r2 : Int32) (M4 : Mem), CC X (d + 6) 215 [vR 100 0, vI (iN p), vI (M3.1 100 0 29)] M3 (some (vI r2)) M4 ∧ inb (17 + iN p) 2129 ∧ inb (17 + iN p) 2129 ∧ ∀ M5, M5 = st M4 101 0 (ix (17 + iN p)) ((M4.1 101 0 (ix (17 + iN p))) + 1) → (r2 ≤ 0 → Q (some (vI r2)) M5) ∧ (¬ r2 ≤ 0 → ∃ (M6 : Mem), CC X (d + 6) 213 [vR 100 0, vI 1, vI (iN p), vI r2] M5 none M6 ∧ Q (some (vI r2)) M6) := by
  obtain ⟨g5, g6, g7, q5, q6, q7⟩ := vt_m hv
  obtain ⟨M3, c3, b3, t3, k3⟩ := c213 (X := X) (d := d + 5) (x := 0) (y := iN p) (z := iN w) hr hb
  obtain ⟨M4, c4, t4, f4, o4, k4, z4⟩ := c215 (X := X) (d := d) (M := M3) (p := p) (e := w) (hL.kw (k3_sub k3 Wn_m)) hT (by rw [t3]; exact hv) hp hw
  rw [t3] at c4 t4
  generalize hl : leaveS L (TM M) p w = l at c4 t4
  have q17 : 17 + iN p = iN (17 + p) := by simp only [iN_lit, iN_add]
  have m28 : M4.1 101 0 (17 + p) = l.1 28 p := by rw [← t4]; exact TW_c (show okC 28 p = true by simp [okC]; omega)
  have b4 : BkM (M4.1 101 0) (bkR real s (TM M 20 4, 0, iN p, iN w)) := ⟨b3.1, by rw [f4]; exact b3.2.1, fun j hj => by rw [o4 _ (by omega)]; exact b3.2.2 j hj⟩
  have b5 : BkM ((st M4 101 0 (17 + p) (l.1 28 p + 1)).1 101 0) (bkR real s (TM M 20 4, 0, iN p, iN w)) := ⟨b4.1, by rw [st_ne3 (by omega)]; exact b4.2.1, fun j hj => by rw [st_ne3 (by omega)]; exact b4.2.2 j hj⟩
  have t5 : TM (st M4 101 0 (17 + p) (l.1 28 p + 1)) = up2 l.1 28 p (l.1 28 p + 1) := by rw [TM_28 (by omega), t4]
  have day : l.1 20 4 = TM M 20 4 := by rw [← hl, leaveS_keep (by decide) (by decide)]
  have d5 : TM (st M4 101 0 (17 + p) (l.1 28 p + 1)) 20 4 = TM M 20 4 := by rw [t5, up2_ne (by omega), day]
  have s29 : M3.1 100 0 29 = iN w := by rw [k3 100 0 29 (by simp [Wn])]; exact h29
  have s29' : (st M4 101 0 (17 + p) (l.1 28 p + 1)).1 100 0 29 = iN w := by rw [st_ne3 (fun z => absurd z.1 (by decide)), z4]; exact s29
  have r5 : (st M4 101 0 (17 + p) (l.1 28 p + 1)).1 100 0 26 = bI real := by rw [st_ne3 (fun z => absurd z.1 (by decide)), z4, k3 100 0 26 (by simp [Wn])]; exact hr
  have kk : K3 Wm M (st M4 101 0 (17 + p) (l.1 28 p + 1)) := k3_trans (k3_trans (k3_sub k3 Wn_m) k4) (k3_st (Or.inr (Or.inr (Or.inr ⟨rfl, rfl, by omega, by omega⟩))))
  have i17 : inb (iN (17 + p)) 2129 := inb_of (by omega) (by decide)
  have x17 : ix (iN (17 + p)) = 17 + p := ix_of (by omega)
  by_cases h0 : l.2 ≤ 0
  · have hE : bkL s (visE (TM M) p (up2 l.1 28 p (l.1 28 p + 1), l.2, w) real) = bkR real s (TM M 20 4, 0, iN p, iN w) := by
      unfold visE
      cases real with
      | true =>
        rw [if_pos rfl]
        show bkL s ((TM M 20 4, 0, iN p, iN w) :: (if 0 < l.2 then _ else _)) = _
        rw [if_neg (Int32.not_lt.mpr h0)]
        rfl
      | false => rfl
    rw [hE]
    refine ⟨st M4 101 0 (17 + p) (l.1 28 p + 1), t5, s29', b5, kk, fun Q hQ => ⟨M3, by rw [h29]; exact c3, l.2, M4, by rw [s29]; exact c4, ?_⟩⟩
    rw [q17]
    simp only [forall_eq, true_implies, false_implies, not_true_eq_false, not_false_eq_true, and_true, true_and, and_self, isB0, isB1, bI_t0, bI_f0, i10_, i20_, i01_, i02_, i12_, i21_, i17, x17, m28, h0]
    exact hQ
  · obtain ⟨M6, c6, b6, t6, k6⟩ := c213 (X := X) (d := d + 5) (x := 1) (y := iN p) (z := l.2) r5 b5
    rw [d5] at b6
    have hE : bkL s (visE (TM M) p (up2 l.1 28 p (l.1 28 p + 1), l.2, w) real) = bkR real (bkR real s (TM M 20 4, 0, iN p, iN w)) (TM M 20 4, 1, iN p, l.2) := by
      unfold visE
      cases real with
      | true =>
        rw [if_pos rfl]
        show bkL s ((TM M 20 4, 0, iN p, iN w) :: (if 0 < l.2 then _ else _)) = _
        rw [if_pos (Int32.not_le.mp h0)]
        rfl
      | false => rfl
    rw [hE]
    refine ⟨M6, t6.trans t5, by rw [k6 100 0 29 (by simp [Wn])]; exact s29', b6, k3_trans kk (k3_sub k6 Wn_m), fun Q hQ => ⟨M3, by rw [h29]; exact c3, l.2, M4, by rw [s29]; exact c4, ?_⟩⟩
    rw [q17]
    simp only [forall_eq, true_implies, false_implies, not_true_eq_false, not_false_eq_true, and_true, true_and, and_self, isB0, isB1, bI_t0, bI_f0, i10_, i20_, i01_, i02_, i12_, i21_, i17, x17, m28, h0]
    exact ⟨M6, c6, hQ⟩
theorem iN_mod_nxt {n e : Nat} (he : e < n) (hn : n ≤ 8) : (iN e + 1) % iN n = iN (nxt n e) := by
  rw [iN_step, iN_mod (by omega) (by omega) (by omega)]
  unfold nxt
  split
  · rw [Nat.mod_eq_of_lt (by assumption)]
  · rw [show e + 1 = n by omega, Nat.mod_self]
/-- by: the fields in the reference's row -/
def ByR (M : Mem) (fs : List Nat) : Prop := fs.length ≤ 6 ∧ M.1 100 0 28 = iN fs.length ∧ ∀ (j f : Nat), fs[j]? = some f → M.1 111 0 j = iN f
theorem c216_takes {X : Cx} {d B n5 n6 n7 p k : Nat} {e : Int32} {L : Lw} (hT : LawT L) (hp : p < n7) (hk : k ≤ 6) : ∀ (fs : List Nat) (j : Nat) (M : Mem), j + fs.length = k → M.1 100 0 28 = iN k → (∀ (i f : Nat), fs[i]? = some f → M.1 111 0 (j + i) = iN f) → LawM (M.1 101 0) L → VTn B (TM M) n5 n6 n7 → (∀ f, f ∈ fs → f < n5) →
    ∃ M', TM M' = takeL L p (TM M) fs ∧ M'.1 101 0 5 = M.1 101 0 5 ∧ (∀ j, 645 ≤ j → M'.1 101 0 j = M.1 101 0 j) ∧ K3 Wm M M' ∧ ∀ Q, V X (d + 7) 216 2 [some (vR 100 0), some (vI (iN p)), some (vI e), some (vI (iN k)), none] [] M' Q → V X (d + 7) 216 2 [some (vR 100 0), some (vI (iN p)), some (vI e), some (vI (iN j)), none] [] M Q
  | [], j, M, hj, _, _, _, _, _ => by
    have hj : j = k := hj
    subst hj
    exact ⟨M, rfl, rfl, fun _ _ => rfl, k3_refl, fun _ h => h⟩
  | f :: fs, j, M, hj, h28, hby, hL, hv, hf => by
    simp only [List.length_cons] at hj
    obtain ⟨M1, c1, t1, f1, o1, k1⟩ := c214 (X := X) (d := d) hL hT hv hp (hf f (List.mem_cons_self))
    obtain ⟨M2, t2, f2, o2, k2, g2⟩ := c216_takes (X := X) (d := d) (e := e) hT hp hk fs (j + 1) M1 (by omega) (by rw [k1 100 0 28 (by simp [Wm])]; exact h28) (fun i g hi => by
      rw [k1 111 0 _ (by simp [Wm]), show j + 1 + i = j + (i + 1) by omega]
      exact hby (i + 1) g hi) (hL.kw k1) (by rw [t1]; exact takeS_v hv hp (hf f (List.mem_cons_self))) (fun g hg => hf g (List.mem_cons_of_mem _ hg))
    rw [t1] at t2
    refine ⟨M2, t2, f2.trans f1, fun i hi => (o2 i hi).trans (o1 i hi), k3_trans k1 k2, fun Q hQ => w216_2 ?_⟩
    have hb0 : M.1 111 0 j = iN f := hby 0 f rfl
    simp only [forall_eq, true_implies, false_implies, not_true_eq_false, not_false_eq_true, and_true, true_and, and_self, isB0, isB1, bI_t0, bI_f0, i10_, i20_, i01_, i02_, i12_, i21_, h28, nle_ (a := k) (b := j) (by omega) (by omega) (by omega), show inb (iN j) 6 from inb_of (by omega) (by decide), ix_of (show j < 2147483648 by omega), hb0, iN_step]
    exact ⟨_, c1, g2 Q hQ⟩
theorem c216 {X : Cx} {d : Nat} {M : Mem} {B n5 n6 n7 p e : Nat} {L : Lw} {s : Bk} {real : Bool} {fs : List Nat} (hL : LawM (M.1 101 0) L) (hT : LawT L) (hv : VTn B (TM M) n5 n6 n7) (hp : p < n7) (he : e < n6) (hr : M.1 100 0 26 = bI real) (hby : ByR M fs) (hf : ∀ f, f ∈ fs → f < n5) (hb : BkM (M.1 101 0) s) :
    ∃ M', CC X (d + 7) 216 [vR 100 0, vI (iN p), vI (iN e)] M (some (vI (visitS L (TM M) n6 p fs e real).2.1)) M' ∧ TM M' = (visitS L (TM M) n6 p fs e real).1 ∧ M'.1 100 0 29 = iN (visitS L (TM M) n6 p fs e real).2.2 ∧ BkM (M'.1 101 0) (bkL s (visE (TM M) p (visitS L (TM M) n6 p fs e real) real)) ∧ K3 Wm M M' := by
  obtain ⟨g5, g6, g7, q5, q6, q7⟩ := vt_m hv
  obtain ⟨b6, b28, bby⟩ := hby
  obtain ⟨M1, t1, f1, o1, k1, g1⟩ := c216_takes (X := X) (d := d) (e := iN e) hT hp b6 fs 0 M (by omega) b28 (fun i f hi => by rw [Nat.zero_add]; exact bby i f hi) hL hv hf
  have v1 : VTn B (TM M1) n5 n6 n7 := by rw [t1]; exact takeL_v hp hv hf
  have L1 := hL.kw k1
  obtain ⟨M2, c2, k2⟩ := c210 (X := X) (d := d + 1) (M := M1) (p := p) (e := e) L1 hT (by omega) (by omega)
  have w2 : M2.1 101 0 = M1.1 101 0 := k3_col k2 (fun _ => by simp)
  have T2 : TM M2 = takeL L p (TM M) fs := by rw [TM_k k2 (fun _ => by simp), t1]
  rw [t1] at c2
  have k2m : K3 Wm M1 M2 := k3_sub k2 (fun c a j z => z.elim Or.inl (fun y => Or.inr (Or.inl y)))
  have v2 : VTn B (TM M2) n5 n6 n7 := by rw [T2, ← t1]; exact v1
  have e28 : M1.1 100 0 28 = iN fs.length := by rw [k1 100 0 28 (by simp [Wm])]; exact b28
  have e26 : M2.1 100 0 26 = bI real := by rw [k2 100 0 26 (by simp), k1 100 0 26 (by simp [Wm])]; exact hr
  have day : takeL L p (TM M) fs 20 4 = TM M 20 4 := takeL_keep (by decide)
  have bk2 : BkM (M2.1 101 0) s := ⟨hb.1, by rw [w2, f1]; exact hb.2.1, fun j hj => by rw [w2, o1 _ (by omega)]; exact hb.2.2 j hj⟩
  obtain ⟨kk, kk1, -, kk2⟩ := askS_n L (takeL L p (TM M) fs) 2 p none (some e)
  -- a way to the tail: from memory N with stray result
  have fin : ∀ (N : Mem) (w : Nat) (Ts : Ld × Bool), strS L (takeL L p (TM M) fs) p e real = Ts → TM N = Ts.1 → w = (if Ts.2 = true then nxt n6 e else e) → N.1 100 0 29 = iN w → N.1 100 0 26 = bI real → BkM (N.1 101 0) s → K3 Wm M N →
      ∃ M', TM M' = (visitS L (TM M) n6 p fs e real).1 ∧ M'.1 100 0 29 = iN (visitS L (TM M) n6 p fs e real).2.2 ∧ BkM (M'.1 101 0) (bkL s (visE (TM M) p (visitS L (TM M) n6 p fs e real) real)) ∧ K3 Wm M M' ∧
        ∀ Q : Option Vl → Mem → Prop, Q (some (vI (visitS L (TM M) n6 p fs e real).2.1)) M' → ∃ (M3 : Mem), CC X (d + 6) 213 [vR 100 0, vI 0, vI (iN p), vI (N.1 100 0 29)] N none M3 ∧ ∃ (r2 : Int32) (M4 : Mem), CC X (d + 6) 215 [vR 100 0, vI (iN p), vI (M3.1 100 0 29)] M3 (some (vI r2)) M4 ∧ inb (17 + iN p) 2129 ∧ inb (17 + iN p) 2129 ∧ ∀ M5, M5 = st M4 101 0 (ix (17 + iN p)) ((M4.1 101 0 (ix (17 + iN p))) + 1) → (r2 ≤ 0 → Q (some (vI r2)) M5) ∧ (¬ r2 ≤ 0 → ∃ (M6 : Mem), CC X (d + 6) 213 [vR 100 0, vI 1, vI (iN p), vI r2] M5 none M6 ∧ Q (some (vI r2)) M6) := by
    intro N w Ts hs hN hw h29 h26 hbk hk
    have hwn : w < n6 := by
      rw [hw]
      split
      · exact nxt_lt he
      · exact he
    have vN : VTn B (TM N) n5 n6 n7 := by rw [hN, ← hs]; exact VTn.str (takeL_v hp hv hf)
    have evv : visitS L (TM M) n6 p fs e real = (up2 (leaveS L (TM N) p w).1 28 p ((leaveS L (TM N) p w).1 28 p + 1), (leaveS L (TM N) p w).2, w) := by
      unfold visitS
      rw [hs]
      show (fun (w : Nat) => (fun (l : Ld × Int32) => (up2 l.1 28 p (l.1 28 p + 1), l.2, w)) (leaveS L Ts.1 p w)) (if Ts.2 = true then nxt n6 e else e) = _
      rw [← hw, ← hN]
    obtain ⟨M', a1, a2, a3, a4, a5⟩ := c216_tail (X := X) (d := d) (hL.kw hk) hT vN hp hwn h26 h29 hbk
    have dN : TM N 20 4 = TM M 20 4 := by rw [hN, ← hs, strS_keep (by decide), day]
    rw [evv]
    refine ⟨M', a1, a2, ?_, k3_trans hk a4, a5⟩
    have : visE (TM M) p (up2 (leaveS L (TM N) p w).1 28 p ((leaveS L (TM N) p w).1 28 p + 1), (leaveS L (TM N) p w).2, w) real = visE (TM N) p (up2 (leaveS L (TM N) p w).1 28 p ((leaveS L (TM N) p w).1 28 p + 1), (leaveS L (TM N) p w).2, w) real := by
      unfold visE
      rw [dN]
    rw [this]
    exact a3
  have n0 : (iN kk ≤ 0) = (kk = 0) := iN_le0 (by omega)
  by_cases hz : kk = 0
  · subst hz
    have hs : strS L (takeL L p (TM M) fs) p e real = (takeL L p (TM M) fs, false) := by
      unfold strS
      rw [kk2]
      cases real with
      | true => rw [if_pos rfl, if_pos (show iN 0 = 0 from rfl)]
      | false => rw [if_neg (by decide)]; rfl
    obtain ⟨M', a1, a2, a3, a4, a5⟩ := fin (st M2 100 0 29 (iN e)) e _ hs (by rw [TM_st (by decide), T2]) rfl st_at (by rw [st_ne3 (by omega)]; exact e26) (by rw [st_ne (fun z => absurd z.1 (by decide))]; exact bk2) (k3_trans (k3_trans k1 k2m) (k3_st (by simp [Wm])))
    refine ⟨M', e216 (w216_0 (g1 _ (w216_2 ?_))), a1, a2, a3, a4⟩
    simp only [forall_eq, true_implies, false_implies, not_true_eq_false, not_false_eq_true, and_true, true_and, and_self, isB0, isB1, bI_t0, bI_f0, i10_, i20_, i01_, i02_, i12_, i21_, e28, yle_ (a := fs.length) (b := fs.length) (by omega) (by omega) (Nat.le_refl _)]
    refine ⟨_, _, c2, ?_⟩
    rw [kk2]
    simp only [forall_eq, true_implies, false_implies, not_true_eq_false, not_false_eq_true, and_true, true_and, and_self, isB0, isB1, bI_t0, bI_f0, i10_, i20_, i01_, i02_, i12_, i21_, show (iN 0 ≤ 0) = True from by decide]
    have := a5 (fun r' N' => r' = some (vI (visitS L (TM M) n6 p fs e real).2.1) ∧ N' = M') ⟨rfl, rfl⟩
    simpa only [forall_eq] using this
  · have hz1 : (iN kk ≤ 0) = False := by rw [n0]; exact eq_false hz
    cases real with
    | false =>
      by_cases h5 : kk < 500
      · have hs : strS L (takeL L p (TM M) fs) p e false = (takeL L p (TM M) fs, false) := by
          unfold strS
          rw [if_neg (by decide), kk2, decide_eq_false (show ¬ (500 : Int32) ≤ iN kk from fun z => absurd ((iN_le (a := 500) (by decide) (by omega)).mp z) (by omega))]
        obtain ⟨M', a1, a2, a3, a4, a5⟩ := fin (st M2 100 0 29 (iN e)) e _ hs (by rw [TM_st (by decide), T2]) rfl st_at (by rw [st_ne3 (by omega)]; exact e26) (by rw [st_ne (fun z => absurd z.1 (by decide))]; exact bk2) (k3_trans (k3_trans k1 k2m) (k3_st (by simp [Wm])))
        refine ⟨M', e216 (w216_0 (g1 _ (w216_2 ?_))), a1, a2, a3, a4⟩
        simp only [forall_eq, true_implies, false_implies, not_true_eq_false, not_false_eq_true, and_true, true_and, and_self, isB0, isB1, bI_t0, bI_f0, i10_, i20_, i01_, i02_, i12_, i21_, e28, yle_ (a := fs.length) (b := fs.length) (by omega) (by omega) (Nat.le_refl _)]
        refine ⟨_, _, c2, ?_⟩
        rw [kk2]
        have e26' : ∀ y, (st M2 100 0 29 y).1 100 0 26 = bI false := fun y => by rw [st_ne3 (by omega)]; exact e26
        simp only [forall_eq, true_implies, false_implies, not_true_eq_false, not_false_eq_true, and_true, true_and, and_self, isB0, isB1, bI_t0, bI_f0, i10_, i20_, i01_, i02_, i12_, i21_, hz1, e26', show (iN kk < 500) = True from ylt_ (b := 500) (by omega) (by decide) h5]
        have := a5 (fun r' N' => r' = some (vI (visitS L (TM M) n6 p fs e false).2.1) ∧ N' = M') ⟨rfl, rfl⟩
        simpa only [forall_eq] using this
      · have hs : strS L (takeL L p (TM M) fs) p e false = (takeL L p (TM M) fs, true) := by
          unfold strS
          rw [if_neg (by decide), kk2, decide_eq_true (show (500 : Int32) ≤ iN kk from (iN_le (a := 500) (by decide) (by omega)).mpr (by omega))]
        obtain ⟨M', a1, a2, a3, a4, a5⟩ := fin (st (st M2 100 0 29 (iN e)) 100 0 29 (iN (nxt n6 e))) (nxt n6 e) _ hs (by rw [TM_st (by decide), TM_st (by decide), T2]) rfl st_at (by rw [st_ne3 (by omega), st_ne3 (by omega)]; exact e26) (by rw [st_ne (fun z => absurd z.1 (by decide)), st_ne (fun z => absurd z.1 (by decide))]; exact bk2) (k3_trans (k3_trans (k3_trans k1 k2m) (k3_st (by simp [Wm]))) (k3_st (by simp [Wm])))
        refine ⟨M', e216 (w216_0 (g1 _ (w216_2 ?_))), a1, a2, a3, a4⟩
        simp only [forall_eq, true_implies, false_implies, not_true_eq_false, not_false_eq_true, and_true, true_and, and_self, isB0, isB1, bI_t0, bI_f0, i10_, i20_, i01_, i02_, i12_, i21_, e28, yle_ (a := fs.length) (b := fs.length) (by omega) (by omega) (Nat.le_refl _)]
        refine ⟨_, _, c2, ?_⟩
        rw [kk2]
        have e26' : ∀ y, (st M2 100 0 29 y).1 100 0 26 = bI false := fun y => by rw [st_ne3 (by omega)]; exact e26
        have e230 : ∀ y, (st M2 100 0 29 y).1 101 0 230 = iN n6 := fun y => by rw [st_ne3 (by omega), w2, k1 101 0 230 (by simp [Wm])]; exact g6
        simp only [forall_eq, true_implies, false_implies, not_true_eq_false, not_false_eq_true, and_true, true_and, and_self, isB0, isB1, bI_t0, bI_f0, i10_, i20_, i01_, i02_, i12_, i21_, hz1, e26', show (iN kk < 500) = False from nlt_ (b := 500) (by omega) (by decide) (by omega), show inb 230 2129 from inb_l (by decide) (by decide), show ix 230 = 230 from ix_l (by decide), e230, iN_ne0 (show 0 < n6 by omega) (by omega), iN_mod_nxt he q6]
        have := a5 (fun r' N' => r' = some (vI (visitS L (TM M) n6 p fs e false).2.1) ∧ N' = M') ⟨rfl, rfl⟩
        simpa only [forall_eq] using this
    | true =>
      have d0 : ∀ y, (st M2 100 0 29 y).1 101 0 4 = takeL L p (TM M) fs 20 0 := fun y => by rw [st_ne3 (by omega), ← T2]; exact TW_c (c := 20) (j := 0) (by decide)
      have hss : strS L (takeL L p (TM M) fs) p e true = (up2 (takeL L p (TM M) fs) 20 0 (drw (takeL L p (TM M) fs 20 0)), decide (drn (drw (takeL L p (TM M) fs 20 0)) 1000 < iN kk)) := by
        unfold strS
        rw [if_pos rfl, kk2, if_neg (by rw [iN_ne0 (by omega) (by omega)]; exact not_false)]
      have e26' : ∀ y, (st M2 100 0 29 y).1 100 0 26 = bI true := fun y => by rw [st_ne3 (by omega)]; exact e26
      have cdw : ∀ y, CC X (d + 6) 161 [vR 100 0, vI 1000] (st M2 100 0 29 y) (some (vI (drn (drw (takeL L p (TM M) fs 20 0)) 1000))) (st (st M2 100 0 29 y) 101 0 4 (drw (takeL L p (TM M) fs 20 0))) := fun y => by
        have := c161 (X := X) (d := d + 5) (M := st M2 100 0 29 y) (m := 1000) (by decide)
        rw [d0 y] at this
        exact this
      by_cases h5 : drn (drw (takeL L p (TM M) fs 20 0)) 1000 < iN kk
      · rw [decide_eq_true h5] at hss
        obtain ⟨M', a1, a2, a3, a4, a5⟩ := fin (st (st (st M2 100 0 29 (iN e)) 101 0 4 (drw (takeL L p (TM M) fs 20 0))) 100 0 29 (iN (nxt n6 e))) (nxt n6 e) _ hss (by rw [TM_st (by decide), TM_20_0, TM_st (by decide), T2]) rfl st_at (by rw [st_ne3 (by omega), st_ne3 (by omega), st_ne3 (by omega)]; exact e26) ⟨bk2.1, by rw [st_ne3 (by omega), st_ne3 (by omega), st_ne3 (by omega)]; exact bk2.2.1, fun j hj => by rw [st_ne3 (by omega), st_ne3 (by omega), st_ne3 (by omega)]; exact bk2.2.2 j hj⟩ (k3_trans (k3_trans (k3_trans (k3_trans k1 k2m) (k3_st (by simp [Wm]))) (k3_st (by simp [Wm]))) (k3_st (by simp [Wm])))
        refine ⟨M', e216 (w216_0 (g1 _ (w216_2 ?_))), a1, a2, a3, a4⟩
        simp only [forall_eq, true_implies, false_implies, not_true_eq_false, not_false_eq_true, and_true, true_and, and_self, isB0, isB1, bI_t0, bI_f0, i10_, i20_, i01_, i02_, i12_, i21_, e28, yle_ (a := fs.length) (b := fs.length) (by omega) (by omega) (Nat.le_refl _)]
        refine ⟨_, _, c2, ?_⟩
        rw [kk2]
        have e230 : ∀ y z, (st (st M2 100 0 29 y) 101 0 4 z).1 101 0 230 = iN n6 := fun y z => by rw [st_ne3 (by omega), st_ne3 (by omega), w2, k1 101 0 230 (by simp [Wm])]; exact g6
        simp only [forall_eq, true_implies, false_implies, not_true_eq_false, not_false_eq_true, and_true, true_and, and_self, isB0, isB1, bI_t0, bI_f0, i10_, i20_, i01_, i02_, i12_, i21_, hz1, e26']
        refine ⟨_, _, cdw _, ?_⟩
        simp only [forall_eq, true_implies, false_implies, not_true_eq_false, not_false_eq_true, and_true, true_and, and_self, isB0, isB1, bI_t0, bI_f0, i10_, i20_, i01_, i02_, i12_, i21_, show (iN kk ≤ drn (drw (takeL L p (TM M) fs 20 0)) 1000) = False from eq_false (Int32.not_le.mpr h5), show inb 230 2129 from inb_l (by decide) (by decide), show ix 230 = 230 from ix_l (by decide), e230, iN_ne0 (show 0 < n6 by omega) (by omega), iN_mod_nxt he q6]
        have := a5 (fun r' N' => r' = some (vI (visitS L (TM M) n6 p fs e true).2.1) ∧ N' = M') ⟨rfl, rfl⟩
        simpa only [forall_eq] using this
      · rw [decide_eq_false h5] at hss
        obtain ⟨M', a1, a2, a3, a4, a5⟩ := fin (st (st M2 100 0 29 (iN e)) 101 0 4 (drw (takeL L p (TM M) fs 20 0))) e _ hss (by rw [TM_20_0, TM_st (by decide), T2]) rfl (by rw [st_ne3 (by omega), st_at]) (by rw [st_ne3 (by omega), st_ne3 (by omega)]; exact e26) ⟨bk2.1, by rw [st_ne3 (by omega), st_ne3 (by omega)]; exact bk2.2.1, fun j hj => by rw [st_ne3 (by omega), st_ne3 (by omega)]; exact bk2.2.2 j hj⟩ (k3_trans (k3_trans (k3_trans k1 k2m) (k3_st (by simp [Wm]))) (k3_st (by simp [Wm])))
        refine ⟨M', e216 (w216_0 (g1 _ (w216_2 ?_))), a1, a2, a3, a4⟩
        simp only [forall_eq, true_implies, false_implies, not_true_eq_false, not_false_eq_true, and_true, true_and, and_self, isB0, isB1, bI_t0, bI_f0, i10_, i20_, i01_, i02_, i12_, i21_, e28, yle_ (a := fs.length) (b := fs.length) (by omega) (by omega) (Nat.le_refl _)]
        refine ⟨_, _, c2, ?_⟩
        rw [kk2]
        simp only [forall_eq, true_implies, false_implies, not_true_eq_false, not_false_eq_true, and_true, true_and, and_self, isB0, isB1, bI_t0, bI_f0, i10_, i20_, i01_, i02_, i12_, i21_, hz1, e26']
        refine ⟨_, _, cdw _, ?_⟩
        simp only [forall_eq, true_implies, false_implies, not_true_eq_false, not_false_eq_true, and_true, true_and, and_self, isB0, isB1, bI_t0, bI_f0, i10_, i20_, i01_, i02_, i12_, i21_, show (iN kk ≤ drn (drw (takeL L p (TM M) fs 20 0)) 1000) = True from eq_true (Int32.not_lt.mp h5)]
        have := a5 (fun r' N' => r' = some (vI (visitS L (TM M) n6 p fs e true).2.1) ∧ N' = M') ⟨rfl, rfl⟩
        simpa only [forall_eq] using this
