/-! call, both -/
theorem bkA_le {s : Bk} {q : Qd} (h : s.1 ≤ 150) : s.1 ≤ (bkA s q).1 ∧ (bkA s q).1 ≤ 150 := by
  unfold bkA
  split
  · exact ⟨Nat.le_succ _, by show s.1 + 1 ≤ 150; omega⟩
  · exact ⟨Nat.le_refl _, h⟩
theorem bkA_agree {n : Nat} {F G : Nat → Int32} {q : Qd} (h : ∀ j, j < 4 * n → F j = G j) : (bkA (n, F) q).1 = (bkA (n, G) q).1 ∧ (∀ j, j < 4 * (bkA (n, F) q).1 → (bkA (n, F) q).2 j = (bkA (n, G) q).2 j) ∧ ∀ j, j < 4 * n → (bkA (n, G) q).2 j = G j := by
  unfold bkA
  by_cases hn : n < 150
  · rw [if_pos hn, if_pos hn]
    refine ⟨rfl, fun j hj => ?_, fun j hj => ?_⟩
    · have hj : j < 4 * (n + 1) := hj
      show upd (upd (upd (upd F (4 * n) q.1) (4 * n + 1) q.2.1) (4 * n + 2) q.2.2.1) (4 * n + 3) q.2.2.2 j = upd (upd (upd (upd G (4 * n) q.1) (4 * n + 1) q.2.1) (4 * n + 2) q.2.2.1) (4 * n + 3) q.2.2.2 j
      unfold upd
      split
      · rfl
      · split
        · rfl
        · split
          · rfl
          · split
            · rfl
            · exact h j (by omega)
    · show upd (upd (upd (upd G (4 * n) q.1) (4 * n + 1) q.2.1) (4 * n + 2) q.2.2.1) (4 * n + 3) q.2.2.2 j = G j
      rw [upd_ne (by omega), upd_ne (by omega), upd_ne (by omega), upd_ne (by omega)]
  · rw [if_neg hn, if_neg hn]
    exact ⟨rfl, h, fun _ _ => rfl⟩
theorem bkL_agree : ∀ {es : List Qd} {n : Nat} {F G : Nat → Int32}, n ≤ 150 → (∀ j, j < 4 * n → F j = G j) → (bkL (n, F) es).1 = (bkL (n, G) es).1 ∧ n ≤ (bkL (n, G) es).1 ∧ (bkL (n, G) es).1 ≤ 150 ∧ (∀ j, j < 4 * (bkL (n, F) es).1 → (bkL (n, F) es).2 j = (bkL (n, G) es).2 j) ∧ ∀ j, j < 4 * n → (bkL (n, G) es).2 j = G j
  | [], n, F, G, hn, h => ⟨rfl, Nat.le_refl _, hn, h, fun _ _ => rfl⟩
  | q :: es, n, F, G, hn, h => by
    obtain ⟨a1, a2, a3⟩ := bkA_agree (q := q) h
    obtain ⟨b1, b2⟩ := bkA_le (s := (n, G)) (q := q) hn
    have eF : bkA (n, F) q = ((bkA (n, G) q).1, (bkA (n, F) q).2) := by rw [← a1]
    have := bkL_agree (es := es) (n := (bkA (n, G) q).1) (F := (bkA (n, F) q).2) (G := (bkA (n, G) q).2) b2 (fun j hj => a2 j (by rw [a1]; exact hj))
    rw [← eF] at this
    obtain ⟨c1, c2, c3, c4, c5⟩ := this
    have b1 : n ≤ (bkA (n, G) q).1 := b1
    exact ⟨c1, Nat.le_trans b1 c2, c3, c4, fun j hj => (c5 j (by omega)).trans (a3 j hj)⟩
theorem BookR.c {M : Mem} {a n : Nat} {W : Nat → Int32} (h : BookR M a W n) : BkC M a (n, M.1 31 a) := ⟨h.1, h.2.1, rfl⟩
theorem BookR.m {M : Mem} {a n : Nat} {W : Nat → Int32} (h : BookR M a W n) : BkM W (n, fun j => W (645 + j)) := ⟨h.1, h.2.2.1, fun _ _ => rfl⟩
/-- what walking writes, on both sides -/
def scrC (c : Nat) : Bool := c == 12 || c == 47 || c == 103 || c == 104 || c == 109 || c == 110 || c == 111
abbrev OpP : Nat → Nat → Nat → Prop := fun c a j => scrC c = true ∨ (20 ≤ c ∧ c < 32 ∧ a < 8 ∧ a ≠ 1) ∨ (c = 11 ∧ j = 5) ∨ (c = 8 ∧ a = 0 ∧ j < 2) ∨ (c = 100 ∧ (j = 4 ∨ j = 26 ∨ j = 28 ∨ j = 29)) ∨ (c = 101 ∧ a = 0 ∧ (j < 229 ∨ (645 ≤ j ∧ j < 1245)))
theorem OpP.l {c a j : Nat} (h1 : 20 ≤ c) (h2 : c < 32) (h3 : a < 8 ∧ a ≠ 1) : OpP c a j := Or.inr (Or.inl ⟨h1, h2, h3⟩)
theorem OpP.p {j : Nat} (h : j < 2) : OpP 8 0 j := Or.inr (Or.inr (Or.inr (Or.inl ⟨rfl, rfl, h⟩)))
theorem OpP.m {a j : Nat} (h : j = 4 ∨ j = 26 ∨ j = 28 ∨ j = 29) : OpP 100 a j := Or.inr (Or.inr (Or.inr (Or.inr (Or.inl ⟨rfl, h⟩))))
theorem OpP.w {j : Nat} (h : j < 229 ∨ (645 ≤ j ∧ j < 1245)) : OpP 101 0 j := Or.inr (Or.inr (Or.inr (Or.inr (Or.inr ⟨rfl, rfl, h⟩))))
theorem Wv_o {a : Nat} (ha : a < 8 ∧ a ≠ 1) : ∀ c b j, Wv a c b j → OpP c b j := by
  rintro c b j ((⟨rfl, rfl⟩ | rfl | ⟨rfl, h1, h2⟩) | ⟨rfl, rfl, rfl⟩ | ⟨rfl, rfl | rfl⟩)
  · exact Or.inl rfl
  · exact Or.inl rfl
  · exact OpP.l h1 (by omega) ha
  · exact Or.inr (Or.inr (Or.inl ⟨rfl, rfl⟩))
  · exact OpP.l (by decide) (by decide) ha
  · exact OpP.l (by decide) (by decide) ha
theorem Wm_o : ∀ c b j, Wm c b j → OpP c b j := by
  rintro c b j (rfl | rfl | ⟨rfl, rfl⟩ | ⟨rfl, rfl, -, h⟩)
  · exact Or.inl rfl
  · exact Or.inl rfl
  · exact OpP.m (by decide)
  · exact OpP.w h
theorem Wb_o : ∀ c b j, Wb c b j → OpP c b j := by
  rintro c b j (⟨rfl, rfl⟩ | ⟨rfl, rfl, rfl⟩)
  · exact Or.inl rfl
  · exact OpP.m (by decide)
theorem Wq_o {nx : Nat} (hx : nx < 6) : ∀ c e j, ((e = 2 + nx ∧ 20 ≤ c ∧ c < 32) ∨ (c = 8 ∧ e = 0 ∧ j < 2)) → OpP c e j := by
  rintro c e j (⟨rfl, h1, h2⟩ | ⟨rfl, rfl, h⟩)
  · exact OpP.l h1 h2 (by omega)
  · exact OpP.p h
theorem Wr_o : ∀ c a j, ((c = 103 ∧ a = 0) ∨ (c = 100 ∧ a = 0 ∧ (j = 4 ∨ j = 26))) → OpP c a j := by
  rintro c a j (⟨rfl, rfl⟩ | ⟨rfl, rfl, h⟩)
  · exact Or.inl rfl
  · exact OpP.m (by omega)
theorem no101 {j : Nat} (h : 229 ≤ j) (h2 : j < 645 ∨ 1245 ≤ j) : ¬ OpP 101 0 j := by
  rintro (h | h | h | h | h | h)
  · cases h
  all_goals omega
theorem ShW_of {M M2 : Mem} {lc : Nat} (k : K3 OpP M M2) (h : ∀ j, j < 4 * lc → M2.1 101 0 (645 + j) = M.1 101 0 (645 + j)) : ShW (M.1 101 0) (M2.1 101 0) lc := ⟨fun j hj => k 101 0 j (no101 (by omega) (by omega)), h⟩
/-- the land after walking -/
theorem WldL.walk {B B2 : Nat} {M M2 : Mem} {lc : Nat} {T : Ld} {es : List Qd} (h : WldL B M lc) (k : K3 OpP M M2) (h6 : M2.1 101 0 6 = M.1 101 0 6) (hc : TC M2 0 = T) (hm : TM M2 = T) (hv : VT B2 T) (bc : BkC M2 0 (bkL (lc, M.1 31 0) es)) (bm : BkM (M2.1 101 0) (bkL (lc, fun j => M.1 101 0 (645 + j)) es)) : ∃ lc2, lc ≤ lc2 ∧ WldL B2 M2 lc2 ∧ ShW (M.1 101 0) (M2.1 101 0) lc := by
  obtain ⟨g1, g2, ⟨q, g3, g4⟩, g5, g6, g7, g8⟩ := h
  obtain ⟨c1, c2, c3, c4, c5⟩ := bkL_agree (es := es) (n := lc) (F := M.1 31 0) (G := fun j => M.1 101 0 (645 + j)) g5 g8
  have e6 : TM M2 20 6 = TM M 20 6 := by
    have a1 : M2.1 101 0 230 = TM M2 20 6 := TW_c (c := 20) (j := 6) (by decide)
    have a2 : M.1 101 0 230 = TM M 20 6 := TW_c (c := 20) (j := 6) (by decide)
    rw [← a1, ← a2]
    exact k 101 0 230 (no101 (by decide) (by decide))
  refine ⟨(bkL (lc, fun j => M.1 101 0 (645 + j)) es).1, c2, ⟨hc.trans hm.symm, by rw [hm]; exact hv, ⟨q, by rw [e6]; exact g3, by rw [h6]; exact g4⟩, c3, by rw [← c1]; exact bc.2.1, bm.2.1, fun j hj => ?_⟩, ShW_of k (fun j hj => ?_)⟩
  · rw [bc.2.2, c4 j (by rw [c1]; exact hj), bm.2.2 j (by omega)]
  · rw [bm.2.2 j (by omega), c5 j hj]
theorem VT_n {B : Nat} {M : Mem} (h : VT B (TM M)) (hT : TC M 0 = TM M) : ∃ n5 n6 n7, VTn B (TM M) n5 n6 n7 ∧ VTn B (TC M 0) n5 n6 n7 := by
  obtain ⟨n5, n6, n7, h⟩ := h
  exact ⟨n5, n6, n7, h, by rw [hT]; exact h⟩
/-- the result of a walking op -/
def WalkR (B : Nat) (M M2 : Mem) : Prop := ∃ n nx lc, WldL B M2 lc ∧ PastJ B M2 n n n nx lc ∧ K3 OpP M M2
theorem op103 {X : Cx} {d : Nat} {M : Mem} {B n nx lc : Nat} {u v q : Int32} {L : Lw} (hw : WldL B M lc) (hp : PastJ B M n n n nx lc) (hLC : LawC M 0 L) (hLM : LawM (M.1 101 0) L) (hLT : LawT L) (h3 : M.1 11 0 3 = 0) : ∃ (x : Int32) (M1 M2 : Mem), CC X (d + 8) 103 [vR 2 0, vI u, vI v, vI q] M (some (vI x)) M1 ∧ CC X (d + 8) 218 [vR 100 0, vI u, vI v, vI q] M1 (some (vI x)) M2 ∧ WalkR (B + 90) M M2 := by
  have hw0 := hw
  obtain ⟨hT, hV, hS, hB⟩ := hw
  obtain ⟨n5, n6, n7, vm, vc⟩ := VT_n hV hT
  obtain ⟨c5, c6, c7, q5, q6, q7⟩ := vt_c vc
  obtain ⟨m5, m6, m7, -⟩ := vt_m vm
  have cp := c57 (X := X) (d := d + 6) (M := M) (a := 0) (v := u)
  rw [c7] at cp
  have rp (M1 : Mem) (g : M1.1 101 0 231 = iN n7) := c157 (X := X) (d := d + 5) (M := M1) (v := u) g q7
  have cd := c56 (X := X) (d := d + 6) (M := M) (a := 0) (v := q)
  rw [c6] at cd
  have rd (M1 : Mem) (g : M1.1 101 0 230 = iN n6) := c156 (X := X) (d := d + 5) (M := M1) (v := q) g q6
  have cr := c59 (X := X) (d := d + 5) (M := M) (a := 0) (v := v) q5 c5
  have same : ∀ M2, K3 Wb M M2 → WalkR (B + 90) M M2 := by
    intro M2 k
    have k2 : K3 OpP M M2 := k3_sub k Wb_o
    obtain ⟨nn, n6', n7', hvn⟩ := hV
    obtain ⟨lc2, l1, l2, l3⟩ := hw0.walk (B2 := B + 90) (es := []) k2 (k 101 0 6 (by simp [Wb])) ((TC_k k (fun c j h1 h2 => by simp only [Wb]; omega)).trans hT) (TM_k k (fun _ => by simp [Wb])) ⟨nn, n6', n7', hvn.mono (by omega)⟩ ⟨hB.c.1, by rw [k 30 0 0 (by simp [Wb])]; exact hB.c.2.1, k3_col k (fun _ => by simp [Wb])⟩ (by
      rw [k3_col (c := 101) (a := 0) k (fun _ => by simp [Wb])]
      exact hB.m)
    refine ⟨n, nx, lc2, l2, (hp.frame l1 l3 (k 8 0 0 (by simp [Wb])) (k 8 0 1 (by simp [Wb])) (k 100 0 4 (by simp [Wb])) (k3_col k (fun _ => by simp [Wb])) (fun c a q1 q2 q3 q4 => k3_col k (fun _ => by simp only [Wb]; omega))).mono (by omega), k2⟩
  by_cases hu : has u (iN n7) 12 = true
  · by_cases hq : has q (iN n6) 8 = true
    · by_cases hv : rowOk n5 v = true
      · have hu0 := hu
        have hq0 := hq
        obtain ⟨p, rfl, hp7⟩ := has_lt (k := 12) q7 (by decide) hu
        obtain ⟨e, rfl, he6⟩ := has_lt (k := 8) q6 (by decide) hq
        have hv0 := hv
        unfold rowOk at hv
        simp only [Bool.and_eq_true, decide_eq_true_eq] at hv
        obtain ⟨hur, hall⟩ := hv
        have hpos : 0 ≤ v := Int32.not_lt.mp (fun z => hur (urow_neg z))
        obtain ⟨R, rfl, hR, -⟩ := iN_of hpos
        rw [ix_of hR] at hall
        have hk := (urow_n hR (k := urow (iN R)) (by omega) (urow_le _)).mp rfl
        generalize hkk : urow (iN R) = k at hk hall hur
        have hk6 : k ≤ 6 := by rw [← hkk]; exact urow_le _
        have hfs := allF_iff.mp hall
        obtain ⟨a1, -, a3, a4, a5, a6, a7, a8, -⟩ := id hp
        -- the class
        obtain ⟨N1, x1, x2, x3, x4, x5, x6, x7⟩ := c8 (X := X) (d := d + 4) (M := M) a1 a3 a6 a8
        have tN1 : TC N1 0 = TC M 0 := TC_k x7 (fun c j h1 h2 => by omega)
        have LN1 : LawC N1 0 L := hLC.kw (a := 0) x7 (fun c b j z => by omega)
        obtain ⟨N2, y1, y2, y3, y4, y5⟩ := c90 (X := X) (d := d + 1) (M := N1) (a := 0) (p := p) (e := e) (R := R) (k := k) (real := true) (s := (lc, M.1 31 0)) LN1 hLT (by rw [tN1]; exact vc) hp7 he6 (by rw [x7 11 0 3 (by omega)]; exact h3) (by omega) hk6 hk.1 hk.2 hfs ⟨hB.1, by rw [x7 30 0 0 (by omega)]; exact hB.2.1, k3_col x7 (fun _ => by omega)⟩
        rw [tN1, hT] at y1 y2 y4
        -- the reference
        have wN2 : N2.1 101 0 = M.1 101 0 := by rw [k3_col y5 (fun _ => by simp [Wv, Wk]), k3_col x7 (fun _ => by omega)]
        have TN2 : TM N2 = TM M := by
          show TW (N2.1 101 0) = TW (M.1 101 0)
          rw [wN2]
        obtain ⟨N3, z1, z2, z3⟩ := c217 (X := X) (d := d + 4) (M := N2) (v := iN R) q5 (by rw [wN2]; exact m5)
        have z2 := z2 hv0
        rw [ix_of hR, hkk] at z2
        have r4 : N3.1 100 0 4 = iN n := by rw [z3 100 0 4 (by simp [Wb]), y5 100 0 4 (by simp [Wv, Wk]), x7 100 0 4 (by omega)]; exact a7
        obtain ⟨N4, s1, s2, s3, s4, s5, s6⟩ := c211 (X := X) (d := d + 6) (M := N3) a1 r4
        have wN4 : N4.1 101 0 = M.1 101 0 := by rw [k3_col s6 (fun _ => by omega), k3_col z3 (fun _ => by simp [Wb]), wN2]
        have TN4 : TM N4 = TM M := by
          show TW (N4.1 101 0) = TW (M.1 101 0)
          rw [wN4]
        have by4 : ByR N4 (digs R k) := ⟨z2.1, by rw [s6 100 0 28 (by omega)]; exact z2.2.1, fun j f hj => by rw [s6 111 0 j (by omega)]; exact z2.2.2 j f hj⟩
        obtain ⟨N5, t1, t2, t3, t4, t5⟩ := c216 (X := X) (d := d) (M := N4) (p := p) (e := e) (L := L) (s := (lc, fun j => M.1 101 0 (645 + j))) (real := true) (fs := digs R k) (by rw [wN4]; exact hLM) hLT (by rw [TN4]; exact vm) hp7 he6 s3 by4 hfs (by rw [wN4]; exact hB.m)
        rw [TN4] at t1 t2 t4
        have vis := visitS_v (L := L) (real := true) vm hp7 he6 hfs
        have K1 : K3 OpP M N2 := k3_trans (k3_sub x7 (Wq_o a3)) (k3_sub y5 (Wv_o (by decide)))
        have K2 : K3 OpP N2 N5 := k3_trans (k3_trans (k3_sub z3 Wb_o) (k3_sub s6 Wr_o)) (k3_sub t5 Wm_o)
        have KK := k3_trans K1 K2
        have c25 : ∀ c a, 20 ≤ c → c < 32 → N5.1 c a = N2.1 c a := fun c a q1 q2 => by rw [k3_col t5 (fun _ => by simp only [Wm]; omega), k3_col s6 (fun _ => by omega), k3_col z3 (fun _ => by simp only [Wb]; omega)]
        have c21 : ∀ c a, 20 ≤ c → c < 32 → 2 ≤ a → N2.1 c a = N1.1 c a := fun c a q1 q2 q3 => k3_col y5 (fun _ => by simp only [Wv, Wk]; omega)
        have e6 : N5.1 101 0 6 = M.1 101 0 6 := by rw [t5 101 0 6 (by simp [Wm]), wN4]
        have tc5 : TC N5 0 = (visitS L (TM M) n6 p (digs R k) e true).1 := by rw [TC_of (fun c q1 q2 => c25 c 0 q1 (by omega)), y2]
        obtain ⟨lc2, l1, l2, l3⟩ := hw0.walk KK e6 tc5 t2 ⟨n5, n6, n7, vis.1⟩ ⟨y4.1, by rw [c25 30 0 (by decide) (by decide)]; exact y4.2.1, by rw [c25 31 0 (by decide) (by decide)]; exact y4.2.2⟩ t4
        refine ⟨(visitS L (TM M) n6 p (digs R k) e true).2.1, N2, N5, e103 (w103_0 ⟨_, _, cp, ?_⟩), e218 (w218_0 ⟨_, _, rp N2 (by rw [wN2]; exact m7), ?_⟩), ⟨min 6 (n + 1), (nx + 1) % 6, lc2, l2, ?_, KK⟩⟩
        · rw [hu]
          simp only [forall_eq, true_implies, false_implies, not_true_eq_false, not_false_eq_true, and_true, true_and, and_self, isB0, isB1, bI_t0, bI_f0, i10_, i20_, i01_, i02_, i12_, i21_]
          refine ⟨_, _, cd, ?_⟩
          rw [hq]
          simp only [forall_eq, true_implies, false_implies, not_true_eq_false, not_false_eq_true, and_true, true_and, and_self, isB0, isB1, bI_t0, bI_f0, i10_, i20_, i01_, i02_, i12_, i21_]
          refine ⟨_, _, cr, ?_⟩
          rw [hv0]
          simp only [forall_eq, true_implies, false_implies, not_true_eq_false, not_false_eq_true, and_true, true_and, and_self, isB0, isB1, bI_t0, bI_f0, i10_, i20_, i01_, i02_, i12_, i21_]
          exact ⟨_, x1, _, _, y1, rfl, rfl⟩
        · rw [hu]
          simp only [forall_eq, true_implies, false_implies, not_true_eq_false, not_false_eq_true, and_true, true_and, and_self, isB0, isB1, bI_t0, bI_f0, i10_, i20_, i01_, i02_, i12_, i21_]
          refine ⟨_, _, rd N2 (by rw [wN2]; exact m6), ?_⟩
          rw [hq]
          simp only [forall_eq, true_implies, false_implies, not_true_eq_false, not_false_eq_true, and_true, true_and, and_self, isB0, isB1, bI_t0, bI_f0, i10_, i20_, i01_, i02_, i12_, i21_]
          refine ⟨_, _, z1, ?_⟩
          rw [hv0]
          simp only [forall_eq, true_implies, false_implies, not_true_eq_false, not_false_eq_true, and_true, true_and, and_self, isB0, isB1, bI_t0, bI_f0, i10_, i20_, i01_, i02_, i12_, i21_]
          exact ⟨_, s1, _, _, t1, rfl, rfl⟩
        · refine PastJ.mono (B := B) ?_ (by omega)
          have b35 : ∀ i, N5.1 103 0 i = N4.1 103 0 i := fun i => t5 103 0 i (by simp [Wm])
          have b30 : ∀ i, N3.1 103 0 i = M.1 103 0 i := fun i => by rw [z3 103 0 i (by simp [Wb]), y5 103 0 i (by simp [Wv, Wk]), x7 103 0 i (by omega)]
          have w30 : ∀ i, N3.1 101 0 i = M.1 101 0 i := fun i => by rw [z3 101 0 i (by simp [Wb]), wN2]
          refine PastJ.keep (M := M) hp hw0 l1 l3 ?_ ?_ ?_ ?_ ?_ (fun j hj => ?_) (fun k hk => ?_) (fun t k q1 q2 q3 => ?_) (fun c a q1 q2 q3 q4 q5 => ?_)
          · rw [t5 8 0 0 (by simp [Wm]), s6 8 0 0 (by omega), z3 8 0 0 (by simp [Wb]), y5 8 0 0 (by simp [Wv, Wk]), x5]
          · rw [t5 8 0 1 (by simp [Wm]), s6 8 0 1 (by omega), z3 8 0 1 (by simp [Wb]), y5 8 0 1 (by simp [Wv, Wk]), x6]
          · rw [t5 100 0 4 (by simp [Wm]), s2]
          · rw [← x2]
            exact TC_of (fun c q1 q2 => by rw [c25 c _ q1 (by omega), c21 c _ q1 (by omega) (by omega)])
          · rw [c25 30 _ (by decide) (by decide), c21 30 _ (by decide) (by decide) (by omega), x3]
          · rw [c25 31 _ (by decide) (by decide), c21 31 _ (by decide) (by decide) (by omega), x4 j hj]
          · rw [b35, s4 k hk, w30]
          · rw [b35, s5 t k q1 q2 q3, b30]
          · rw [c25 c a q1 q2, c21 c a q1 q2 q3, k3_col x7 (fun _ => by omega)]
      · have hv : rowOk n5 v = false := by simpa using hv
        obtain ⟨N3, z1, z2, z3⟩ := c217 (X := X) (d := d + 4) (M := M) (v := v) q5 m5
        refine ⟨-1, M, N3, e103 (w103_0 ⟨_, _, cp, ?_⟩), e218 (w218_0 ⟨_, _, rp M m7, ?_⟩), same N3 z3⟩
        · rw [hu]
          simp only [forall_eq, true_implies, false_implies, not_true_eq_false, not_false_eq_true, and_true, true_and, and_self, isB0, isB1, bI_t0, bI_f0, i10_, i20_, i01_, i02_, i12_, i21_]
          refine ⟨_, _, cd, ?_⟩
          rw [hq]
          simp only [forall_eq, true_implies, false_implies, not_true_eq_false, not_false_eq_true, and_true, true_and, and_self, isB0, isB1, bI_t0, bI_f0, i10_, i20_, i01_, i02_, i12_, i21_]
          refine ⟨_, _, cr, ?_⟩
          rw [hv]
          simp only [forall_eq, true_implies, false_implies, not_true_eq_false, not_false_eq_true, and_true, true_and, and_self, isB0, isB1, bI_t0, bI_f0, i10_, i20_, i01_, i02_, i12_, i21_]
        · rw [hu]
          simp only [forall_eq, true_implies, false_implies, not_true_eq_false, not_false_eq_true, and_true, true_and, and_self, isB0, isB1, bI_t0, bI_f0, i10_, i20_, i01_, i02_, i12_, i21_]
          refine ⟨_, _, rd M m6, ?_⟩
          rw [hq]
          simp only [forall_eq, true_implies, false_implies, not_true_eq_false, not_false_eq_true, and_true, true_and, and_self, isB0, isB1, bI_t0, bI_f0, i10_, i20_, i01_, i02_, i12_, i21_]
          refine ⟨_, _, z1, ?_⟩
          rw [hv]
          simp only [forall_eq, true_implies, false_implies, not_true_eq_false, not_false_eq_true, and_true, true_and, and_self, isB0, isB1, bI_t0, bI_f0, i10_, i20_, i01_, i02_, i12_, i21_]
    · have hq : has q (iN n6) 8 = false := by simpa using hq
      refine ⟨-1, M, M, e103 (w103_0 ⟨_, _, cp, ?_⟩), e218 (w218_0 ⟨_, _, rp M m7, ?_⟩), same M k3_refl⟩
      · rw [hu]
        simp only [forall_eq, true_implies, false_implies, not_true_eq_false, not_false_eq_true, and_true, true_and, and_self, isB0, isB1, bI_t0, bI_f0, i10_, i20_, i01_, i02_, i12_, i21_]
        refine ⟨_, _, cd, ?_⟩
        rw [hq]
        simp only [forall_eq, true_implies, false_implies, not_true_eq_false, not_false_eq_true, and_true, true_and, and_self, isB0, isB1, bI_t0, bI_f0, i10_, i20_, i01_, i02_, i12_, i21_]
      · rw [hu]
        simp only [forall_eq, true_implies, false_implies, not_true_eq_false, not_false_eq_true, and_true, true_and, and_self, isB0, isB1, bI_t0, bI_f0, i10_, i20_, i01_, i02_, i12_, i21_]
        refine ⟨_, _, rd M m6, ?_⟩
        rw [hq]
        simp only [forall_eq, true_implies, false_implies, not_true_eq_false, not_false_eq_true, and_true, true_and, and_self, isB0, isB1, bI_t0, bI_f0, i10_, i20_, i01_, i02_, i12_, i21_]
  · have hu : has u (iN n7) 12 = false := by simpa using hu
    refine ⟨-1, M, M, e103 (w103_0 ⟨_, _, cp, ?_⟩), e218 (w218_0 ⟨_, _, rp M m7, ?_⟩), same M k3_refl⟩
    · rw [hu]
      simp only [forall_eq, true_implies, false_implies, not_true_eq_false, not_false_eq_true, and_true, true_and, and_self, isB0, isB1, bI_t0, bI_f0, i10_, i20_, i01_, i02_, i12_, i21_]
    · rw [hu]
      simp only [forall_eq, true_implies, false_implies, not_true_eq_false, not_false_eq_true, and_true, true_and, and_self, isB0, isB1, bI_t0, bI_f0, i10_, i20_, i01_, i02_, i12_, i21_]
