/-! a call, in the class -/
theorem c149_run {X : Cx} {d : Nat} {M : Mem} {R k : Nat} {Q : Option Vl → Mem → Prop} (hk : k ≤ 6) (h1 : 10 ^ k ≤ R) (h2 : R < 2 * 10 ^ k) (hQ : Q (some (vI (iN (10 ^ k)))) M) : ∀ (t j : Nat), j + t + 1 = k → V X (d + 1) 149 4 [some (vI (iN R)), some (vI (iN (10 ^ j))), some (vI (iN (j + 1)))] [] M Q := by
  have hp6 : 10 ^ k ≤ 1000000 := Nat.le_trans (Nat.pow_le_pow_right (by decide) hk) (by decide)
  intro t
  induction t with
  | zero =>
    intro j hj
    have hj : j + 1 = k := hj
    have e1 : iN (10 ^ j) * 10 = iN (10 ^ k) := by rw [iN_lit 10, iN_mul, show 10 ^ j * 10 = 10 ^ k by rw [← hj, Nat.pow_succ]]
    have e2 : 2 * iN (10 ^ k) = iN (2 * 10 ^ k) := by rw [iN_lit 2, iN_mul]
    refine w149_4 ?_
    simp only [forall_eq, true_implies, false_implies, not_true_eq_false, not_false_eq_true, and_true, true_and, and_self, isB0, isB1, bI_t0, bI_f0, i10_, i20_, i01_, i02_, i12_, i21_, e1, e2, show (6 < iN (j + 1)) = False from nlt_ (a := 6) (by decide) (by omega) (by omega), show (iN R < iN (10 ^ k)) = False from nlt_ (by omega) (by omega) h1, show (iN (2 * 10 ^ k) ≤ iN R) = False from nle_ (by omega) (by omega) h2]
    exact hQ
  | succ t ih =>
    intro j hj
    have hjk : j + 1 < k := by omega
    have hpow : 10 ^ (j + 1) * 10 ≤ 10 ^ k := by
      rw [← Nat.pow_succ]
      exact Nat.pow_le_pow_right (by decide) (by omega)
    have e1 : iN (10 ^ j) * 10 = iN (10 ^ (j + 1)) := by rw [iN_lit 10, iN_mul, ← Nat.pow_succ]
    have e2 : 2 * iN (10 ^ (j + 1)) = iN (2 * 10 ^ (j + 1)) := by rw [iN_lit 2, iN_mul]
    refine w149_4 ?_
    simp only [forall_eq, true_implies, false_implies, not_true_eq_false, not_false_eq_true, and_true, true_and, and_self, isB0, isB1, bI_t0, bI_f0, i10_, i20_, i01_, i02_, i12_, i21_, e1, e2, show (6 < iN (j + 1)) = False from nlt_ (a := 6) (by decide) (by omega) (by omega), show (iN R < iN (10 ^ (j + 1))) = False from nlt_ (by omega) (by omega) (by omega), show (iN (2 * 10 ^ (j + 1)) ≤ iN R) = True from yle_ (by omega) (by omega) (by omega), iN_step]
    exact ih (j + 1) (by omega)
theorem c149 {X : Cx} {d : Nat} {M : Mem} {R k : Nat} (hk0 : 1 ≤ k) (hk : k ≤ 6) (h1 : 10 ^ k ≤ R) (h2 : R < 2 * 10 ^ k) : CC X (d + 1) 149 [vI (iN R)] M (some (vI (iN (10 ^ k)))) M :=
  e149 (w149_0 (c149_run hk h1 h2 ⟨rfl, rfl⟩ (k - 1) 0 (by omega)))
/-- a row of fields as a number -/
def digs (R : Nat) : Nat → List Nat
  | 0 => []
  | k + 1 => (R / 10 ^ k % 10) :: digs R k
def takeL (L : Lw) (p : Nat) (T : Ld) : List Nat → Ld
  | [] => T
  | f :: fs => takeL L p (takeS L T p f) fs
theorem takeL_v {L : Lw} {B n5 n6 n7 p : Nat} (hp : p < n7) : ∀ {fs : List Nat} {T : Ld}, VTn B T n5 n6 n7 → (∀ f, f ∈ fs → f < n5) → VTn B (takeL L p T fs) n5 n6 n7
  | [], _, h, _ => h
  | f :: fs, T, h, hf => (show VTn B (takeL L p (takeS L T p f) fs) n5 n6 n7 from takeL_v hp (fs := fs) (takeS_v h hp (hf f (List.mem_cons_self))) (fun g hg => hf g (List.mem_cons_of_mem _ hg)))
def unt (k : Nat) : Nat := 10 ^ k / 10
theorem unt_s (k : Nat) : unt (k + 1) = 10 ^ k := by
  unfold unt
  rw [Nat.pow_succ, Nat.mul_div_cancel _ (by decide)]
theorem c90_takes {X : Cx} {d a B n5 n6 n7 p R : Nat} {e : Int32} {L : Lw} (hT : LawT L) (hp : p < n7) (hR : R < 2147483648) : ∀ (k : Nat) (M : Mem), k ≤ 6 → LawC M 0 L → VTn B (TC M a) n5 n6 n7 → (∀ f, f ∈ digs R k → f < n5) →
    ∃ M', TC M' a = takeL L p (TC M a) (digs R k) ∧ K3 (Wk a) M M' ∧ ∀ Q, V X (d + 6) 90 33 [some (vR 11 a), some (vI (iN p)), some (vI (iN R)), some (vI e), some (vI (iN (unt 0)))] [] M' Q → V X (d + 6) 90 33 [some (vR 11 a), some (vI (iN p)), some (vI (iN R)), some (vI e), some (vI (iN (unt k)))] [] M Q
  | 0, M, _, _, _, _ => ⟨M, rfl, k3_refl, fun _ h => h⟩
  | k + 1, M, hk, hL, hv, hf => by
    have hp6 : 10 ^ k ≤ 1000000 := Nat.le_trans (Nat.pow_le_pow_right (by decide) (show k ≤ 6 by omega)) (by decide)
    have hp0 : 0 < 10 ^ k := Nat.pow_pos (by decide)
    obtain ⟨M1, c1, t1, k1⟩ := c91 (X := X) (d := d) hL hT hv hp (hf _ (List.mem_cons_self))
    obtain ⟨M2, t2, k2, g2⟩ := c90_takes (X := X) (d := d) (a := a) (B := B) (n5 := n5) (n6 := n6) (n7 := n7) (e := e) hT hp hR k M1 (by omega) (hL.kw (a := a) k1 Wk_l) (by rw [t1]; exact takeS_v hv hp (hf _ (List.mem_cons_self))) (fun f hh => hf f (List.mem_cons_of_mem _ hh))
    rw [t1] at t2
    refine ⟨M2, t2, k3_trans k1 k2, fun Q hQ => w90_33 ?_⟩
    rw [unt_s]
    have e1 : iN R / iN (10 ^ k) % 10 = iN (R / 10 ^ k % 10) := by
      have : R / 10 ^ k ≤ R := Nat.div_le_self _ _
      rw [iN_div hR hp0 (by omega), iN_lit 10, iN_mod (by omega) (by decide) (by decide)]
    have e2 : iN (10 ^ k) / 10 = iN (unt k) := by rw [iN_lit 10, iN_div (by omega) (by decide) (by decide)]; rfl
    simp only [forall_eq, true_implies, false_implies, not_true_eq_false, not_false_eq_true, and_true, true_and, and_self, isB0, isB1, bI_t0, bI_f0, i10_, i20_, i01_, i02_, i12_, i21_, show (iN (10 ^ k) ≤ 0) = False from nle_ (b := 0) (by omega) (by decide) hp0, iN_ne0 hp0 (by omega), show ((10 : Int32) = 0) = False from by decide, e1, e2]
    exact ⟨_, c1, g2 Q hQ⟩
/-! a line of the book -/
abbrev Bk : Type := Nat × (Nat → Int32)
abbrev Qd : Type := Int32 × Int32 × Int32 × Int32
def bkA (s : Bk) (q : Qd) : Bk := if s.1 < 150 then (s.1 + 1, upd (upd (upd (upd s.2 (4 * s.1) q.1) (4 * s.1 + 1) q.2.1) (4 * s.1 + 2) q.2.2.1) (4 * s.1 + 3) q.2.2.2) else s
def bkL (s : Bk) : List Qd → Bk
  | [] => s
  | q :: r => bkL (bkA s q) r
def BkC (M : Mem) (a : Nat) (s : Bk) : Prop := s.1 ≤ 150 ∧ M.1 30 a 0 = iN s.1 ∧ M.1 31 a = s.2
theorem c0 {X : Cx} {d : Nat} {M : Mem} {a : Nat} {s : Bk} {x y z u : Int32} (h : BkC M a s) : ∃ M', CC X (d + 1) 0 [vR 30 a, vI x, vI y, vI z, vI u] M none M' ∧ BkC M' a (bkA s (x, y, z, u)) ∧ K3 (fun c b _ => b = a ∧ (c = 30 ∨ c = 31)) M M' := by
  obtain ⟨h1, h2, h3⟩ := h
  obtain ⟨n, F⟩ := s
  have h2 : M.1 30 a 0 = iN n := h2
  have h3 : M.1 31 a = F := h3
  have h1 : n ≤ 150 := h1
  by_cases hn : n < 150
  · have q0 : iN n * 4 = iN (4 * n) := by rw [iN_lit 4, iN_mul, Nat.mul_comm]
    have q1 : iN (4 * n) + 1 = iN (4 * n + 1) := by simp only [iN_lit, iN_add]
    have q2 : iN (4 * n) + 2 = iN (4 * n + 2) := by simp only [iN_lit, iN_add]
    have q3 : iN (4 * n) + 3 = iN (4 * n + 3) := by simp only [iN_lit, iN_add]
    have ea : bkA (n, F) (x, y, z, u) = (n + 1, upd (upd (upd (upd F (4 * n) x) (4 * n + 1) y) (4 * n + 2) z) (4 * n + 3) u) := if_pos hn
    rw [ea]
    refine ⟨st (st (st (st (st M 31 a (4 * n) x) 31 a (4 * n + 1) y) 31 a (4 * n + 2) z) 31 a (4 * n + 3) u) 30 a 0 (iN (n + 1)), e0 (w0_0 ?_), ⟨by show n + 1 ≤ 150; omega, st_at, ?_⟩, ?_⟩
    · simp only [forall_eq, true_implies, false_implies, not_true_eq_false, not_false_eq_true, and_true, true_and, and_self, isB0, isB1, bI_t0, bI_f0, i10_, i20_, i01_, i02_, i12_, i21_, h2, show (iN n < 150) = True from ylt_ (b := 150) (by omega) (by decide) hn, q0, q1, q2, q3, show inb (iN (4 * n)) 600 from inb_of (by omega) (by decide), show inb (iN (4 * n + 1)) 600 from inb_of (by omega) (by decide), show inb (iN (4 * n + 2)) 600 from inb_of (by omega) (by decide), show inb (iN (4 * n + 3)) 600 from inb_of (by omega) (by decide), ix_of (show 4 * n < 2147483648 by omega), ix_of (show 4 * n + 1 < 2147483648 by omega), ix_of (show 4 * n + 2 < 2147483648 by omega), ix_of (show 4 * n + 3 < 2147483648 by omega), st_rd, Nat.reduceEqDiff, false_and, if_false, iN_step]
    · rw [st_ne (fun z => absurd z.1 (by decide)), st_eq, st_eq, st_eq, st_eq, h3]
    · exact k3_trans (k3_trans (k3_trans (k3_trans (k3_st (by simp)) (k3_st (by simp))) (k3_st (by simp))) (k3_st (by simp))) (k3_st (by simp))
  · have ea : bkA (n, F) (x, y, z, u) = (n, F) := if_neg hn
    rw [ea]
    refine ⟨M, e0 (w0_0 ?_), ⟨h1, h2, h3⟩, k3_refl⟩
    simp only [forall_eq, true_implies, false_implies, not_true_eq_false, not_false_eq_true, and_true, true_and, and_self, isB0, isB1, bI_t0, bI_f0, i10_, i20_, i01_, i02_, i12_, i21_, h2, show (iN n < 150) = False from nlt_ (b := 150) (by omega) (by decide) (by omega)]
/-! the call -/
def visitS (L : Lw) (T : Ld) (n6 p : Nat) (fs : List Nat) (e : Nat) (real : Bool) : Ld × Int32 × Nat :=
  ((fun (s : Ld × Bool) => (fun (w : Nat) => (fun (l : Ld × Int32) => (up2 l.1 28 p (l.1 28 p + 1), l.2, w)) (leaveS L s.1 p w)) (if s.2 = true then nxt n6 e else e)) (strS L (takeL L p T fs) p e real))
def visE (T : Ld) (p : Nat) (r : Ld × Int32 × Nat) (real : Bool) : List Qd :=
  if real = true then (T 20 4, 0, iN p, iN r.2.2) :: (if 0 < r.2.1 then [(T 20 4, 1, iN p, r.2.1)] else []) else []
theorem strS_keep {L : Lw} {T : Ld} {p e : Nat} {real : Bool} {c j : Nat} (h : ¬ (c = 20 ∧ j = 0)) : (strS L T p e real).1 c j = T c j := by
  unfold strS
  split
  · split
    · rfl
    · exact up2_ne h
  · rfl
theorem VTn.str {L : Lw} {T : Ld} {B n5 n6 n7 p e : Nat} {real : Bool} (h : VTn B T n5 n6 n7) : VTn B (strS L T p e real).1 n5 n6 n7 := by
  obtain ⟨h1, h2, h3, h4, h5, h6, h7, h8, h9, h10, h11, h12⟩ := h
  refine ⟨h1, h2, h3, ?_, ?_, ?_, ?_, fun f hf => ?_, fun q hq => ?_, fun q hq1 hq2 g hg => ?_, fun e g he hg => ?_, fun e g he hg hg2 => ?_⟩
  · rw [strS_keep (by omega)]; exact h4
  · rw [strS_keep (by omega)]; exact h5
  · rw [strS_keep (by omega)]; exact h6
  · rw [strS_keep (by omega)]; exact h7
  · rw [strS_keep (by omega)]; exact h8 f hf
  · obtain ⟨hm, s, b, a1, a2, a3, a4, a5, b1, b2, b3⟩ := h9 q hq
    exact ⟨hm, s, b, a1, by rw [strS_keep (by omega)]; exact a2, a3, a4, by rw [strS_keep (by omega)]; exact a5, fun g hg => by rw [strS_keep (by omega)]; exact b1 g hg, b2, b3⟩
  · rw [strS_keep (by omega)]; exact h10 q hq1 hq2 g hg
  · rw [strS_keep (by omega)]; exact h11 e g he hg
  · rw [strS_keep (by omega)]; exact h12 e g he hg hg2
theorem takeL_keep {L : Lw} {p : Nat} {c j : Nat} (h : c ≠ 22 ∧ c ≠ 29) : ∀ {fs : List Nat} {T : Ld}, takeL L p T fs c j = T c j
  | [], _ => rfl
  | f :: fs, T => by
    show takeL L p (takeS L T p f) fs c j = T c j
    rw [takeL_keep h]
    unfold takeS
    rw [up2_ne (by omega), up2_ne (by omega)]
theorem leaveS_keep {L : Lw} {T : Ld} {p e c j : Nat} (h : c ≠ 29 ∧ c ≠ 24) (h2 : ¬ (c = 20 ∧ j = 3)) : (leaveS L T p e).1 c j = T c j := by
  unfold leaveS
  split
  · rfl
  · show up2 _ 20 3 _ c j = _
    rw [up2_ne h2]
    exact lvS_keep (Or.inl h)
abbrev Wv (a : Nat) : Nat → Nat → Nat → Prop := fun c b j => Wk a c b j ∨ (c = 11 ∧ b = a ∧ j = 5) ∨ (b = a ∧ (c = 30 ∨ c = 31))
theorem c90 {X : Cx} {d : Nat} {M : Mem} {a B n5 n6 n7 p e R k : Nat} {L : Lw} {real : Bool} {s : Bk} (hL : LawC M 0 L) (hT : LawT L) (hv : VTn B (TC M a) n5 n6 n7) (hp : p < n7) (he : e < n6) (hr : M.1 11 a 3 = bI (!real)) (hk0 : 1 ≤ k) (hk : k ≤ 6) (h1 : 10 ^ k ≤ R) (h2 : R < 2 * 10 ^ k) (hf : ∀ f, f ∈ digs R k → f < n5) (hb : BkC M a s) :
    ∃ M', CC X (d + 6) 90 [vR 11 a, vI (iN p), vI (iN R), vI (iN e)] M (some (vI (visitS L (TC M a) n6 p (digs R k) e real).2.1)) M' ∧ TC M' a = (visitS L (TC M a) n6 p (digs R k) e real).1 ∧ M'.1 11 a 5 = iN (visitS L (TC M a) n6 p (digs R k) e real).2.2 ∧ BkC M' a (bkL s (visE (TC M a) p (visitS L (TC M a) n6 p (digs R k) e real) real)) ∧ K3 (Wv a) M M' := by
  obtain ⟨c5, c6, c7, q5, q6, q7⟩ := vt_c hv
  have hp6 : 10 ^ k ≤ 1000000 := Nat.le_trans (Nat.pow_le_pow_right (by decide) hk) (by decide)
  have cp := c57 (X := X) (d := d + 4) (M := M) (a := a) (v := iN p)
  rw [c7, show has (iN p) (iN n7) 12 = true from has_of hp q7 (by decide)] at cp
  have ce := c56 (X := X) (d := d + 4) (M := M) (a := a) (v := iN e)
  rw [c6, show has (iN e) (iN n6) 8 = true from has_of he q6 (by decide)] at ce
  obtain ⟨M1, t1, k1, g1⟩ := c90_takes (X := X) (d := d) (a := a) (B := B) (n5 := n5) (n6 := n6) (n7 := n7) (R := R) (e := iN e) hT hp (by omega) k M hk hL hv hf
  have v1 : VTn B (TC M1 a) n5 n6 n7 := by rw [t1]; exact takeL_v hp hv hf
  have L1 := hL.kw (a := a) k1 Wk_l
  obtain ⟨M2, s2, t2, k2⟩ := c92 (X := X) (d := d) L1 hT v1 hp he (real := real) (by rw [k1 11 a 3 (by simp [Wk])]; exact hr)
  have v2 : VTn B (TC M2 a) n5 n6 n7 := by rw [t2]; exact v1.str
  have L2 := L1.kw (a := a) k2 Wk_l
  rw [t1] at t2 s2
  generalize hs : strS L (takeL L p (TC M a) (digs R k)) p e real = ss at t2 s2
  generalize hw : (if ss.2 = true then nxt n6 e else e) = w
  have hwn : w < n6 := by
    rw [← hw]
    unfold nxt
    split
    · split <;> omega
    · exact he
  have L3 : LawC (st M2 11 a 5 (iN w)) 0 L := L2.kw (a := a) (k3_st (P := fun c _ _ => c = 11) rfl) (fun c b j z => by omega)
  have t3 : TC (st M2 11 a 5 (iN w)) a = ss.1 := by rw [TC_off (Or.inl (fun _ => rfl)), t2]
  obtain ⟨M4, c4, t4, k4⟩ := c94 (X := X) (d := d) (M := st M2 11 a 5 (iN w)) (a := a) (e := w) L3 hT (by rw [t3, ← t2]; exact v2) hp hwn
  rw [t3] at c4 t4
  generalize hl : leaveS L ss.1 p w = l at c4 t4
  have ev : visitS L (TC M a) n6 p (digs R k) e real = (up2 l.1 28 p (l.1 28 p + 1), l.2, w) := by
    unfold visitS
    rw [hs]
    show (fun (w : Nat) => (fun (l : Ld × Int32) => (up2 l.1 28 p (l.1 28 p + 1), l.2, w)) (leaveS L ss.1 p w)) (if ss.2 = true then nxt n6 e else e) = _
    rw [hw]
    show (fun (l : Ld × Int32) => (up2 l.1 28 p (l.1 28 p + 1), l.2, w)) (leaveS L ss.1 p w) = _
    rw [hl]
  rw [ev]
  have m28 : M4.1 28 a p = l.1 28 p := by rw [← t4, TC_rd (by simp [okC]; omega)]
  have day : l.1 20 4 = TC M a 20 4 := by
    rw [← hl, leaveS_keep (by decide) (by decide), ← hs, strS_keep (by decide), takeL_keep (by decide)]
  have m204 : M4.1 20 a 4 = TC M a 20 4 := by rw [← day, ← t4, TC20 (by decide)]
  have kv : K3 (Wv a) M (st M4 28 a p (l.1 28 p + 1)) := k3_trans (k3_trans (k3_trans (k3_sub (k3_trans k1 k2) (fun _ _ _ z => Or.inl z)) (k3_st (by simp [Wv]))) (k3_sub k4 (fun _ _ _ z => Or.inl z))) (k3_st (by simp [Wv, Wk]))
  have t5 : TC (st M4 28 a p (l.1 28 p + 1)) a = up2 l.1 28 p (l.1 28 p + 1) := by rw [TC_st (by simp [okC]; omega), t4]
  have w5 : (st M4 28 a p (l.1 28 p + 1)).1 11 a 5 = iN w := by
    rw [st_ne3 (fun z => absurd z.1 (by decide)), k4 11 a 5 (by simp [Wk]), st_at]
  have k5 : ∀ c, c = 30 ∨ c = 31 → (st M4 28 a p (l.1 28 p + 1)).1 c a = M.1 c a := fun c hc => by
    rw [st_ne (by omega), k3_col k4 (fun j => by simp only [Wk]; omega), st_ne (by omega), k3_col k2 (fun j => by simp only [Wk]; omega), k3_col k1 (fun j => by simp only [Wk]; omega)]
  have b5 : BkC (st M4 28 a p (l.1 28 p + 1)) a s := ⟨hb.1, by rw [k5 30 (Or.inl rfl)]; exact hb.2.1, by rw [k5 31 (Or.inr rfl)]; exact hb.2.2⟩
  have bp : inb (iN p) 12 := inb_of (by omega) (by decide)
  have xp : ix (iN p) = p := ix_of (by omega)
  have r3 : M4.1 11 a 3 = bI (!real) := by
    rw [k4 11 a 3 (by simp [Wk]), st_ne3 (by omega), k2 11 a 3 (by simp [Wk]), k1 11 a 3 (by simp [Wk])]
    exact hr
  have enter : ∀ (M' : Mem) (Q : Option Vl → Mem → Prop), ((¬ (bI (!real)) = 0 → Q (some (vI l.2)) (st M4 28 a p (l.1 28 p + 1))) ∧ ((bI (!real)) = 0 → ∃ (M5 : Mem), CC X (d + 5) 0 [vR 30 a, vI (TC M a 20 4), vI 0, vI (iN p), vI (iN w)] (st M4 28 a p (l.1 28 p + 1)) none M5 ∧ (l.2 ≤ 0 → Q (some (vI l.2)) M5) ∧ (¬ l.2 ≤ 0 → ∃ (M6 : Mem), CC X (d + 5) 0 [vR 30 a, vI (M5.1 20 a 4), vI 1, vI (iN p), vI l.2] M5 none M6 ∧ Q (some (vI l.2)) M6))) → V X (d + 6) 90 0 [some (vR 11 a), some (vI (iN p)), some (vI (iN R)), some (vI (iN e)), none] [] M Q := by
    intro M' Q hQ
    refine w90_0 ⟨_, _, cp, ?_⟩
    simp only [forall_eq, true_implies, false_implies, not_true_eq_false, not_false_eq_true, and_true, true_and, and_self, isB0, isB1, bI_t0, bI_f0, i10_, i20_, i01_, i02_, i12_, i21_]
    refine ⟨_, _, ce, ?_⟩
    simp only [forall_eq, true_implies, false_implies, not_true_eq_false, not_false_eq_true, and_true, true_and, and_self, isB0, isB1, bI_t0, bI_f0, i10_, i20_, i01_, i02_, i12_, i21_]
    refine ⟨_, _, c149 hk0 hk h1 h2, by decide, ?_⟩
    rw [show iN (10 ^ k) / 10 = iN (unt k) by rw [iN_lit 10, iN_div (by omega) (by decide) (by decide)]; rfl]
    refine g1 Q (w90_33 ?_)
    simp only [forall_eq, true_implies, false_implies, not_true_eq_false, not_false_eq_true, and_true, true_and, and_self, isB0, isB1, bI_t0, bI_f0, i10_, i20_, i01_, i02_, i12_, i21_, show (iN (unt 0) ≤ 0) = True from by decide]
    refine ⟨_, _, s2, ?_⟩
    cases hb2 : ss.2 with
    | true =>
      rw [hb2, if_pos rfl] at hw
      simp only [forall_eq, true_implies, false_implies, not_true_eq_false, not_false_eq_true, and_true, true_and, and_self, isB0, isB1, bI_t0, bI_f0, i10_, i20_, i01_, i02_, i12_, i21_]
      refine ⟨_, _, c93 q6 (vt_c v2).2.1 he, ?_⟩
      rw [hw]
      simp only [forall_eq, true_implies, false_implies, not_true_eq_false, not_false_eq_true, and_true, true_and, and_self, isB0, isB1, bI_t0, bI_f0, i10_, i20_, i01_, i02_, i12_, i21_, st_at]
      refine ⟨_, _, c4, ?_⟩
      simp only [forall_eq, true_implies, false_implies, not_true_eq_false, not_false_eq_true, and_true, true_and, and_self, isB0, isB1, bI_t0, bI_f0, i10_, i20_, i01_, i02_, i12_, i21_, bp, xp, m28, st_rd, Nat.reduceEqDiff, false_and, if_false, r3, m204, show M4.1 11 a 5 = iN w by rw [k4 11 a 5 (by simp [Wk]), st_at]]
      exact hQ
    | false =>
      rw [hb2, if_neg (by decide)] at hw
      subst hw
      simp only [forall_eq, true_implies, false_implies, not_true_eq_false, not_false_eq_true, and_true, true_and, and_self, isB0, isB1, bI_t0, bI_f0, i10_, i20_, i01_, i02_, i12_, i21_, st_at]
      refine ⟨_, _, c4, ?_⟩
      simp only [forall_eq, true_implies, false_implies, not_true_eq_false, not_false_eq_true, and_true, true_and, and_self, isB0, isB1, bI_t0, bI_f0, i10_, i20_, i01_, i02_, i12_, i21_, bp, xp, m28, st_rd, Nat.reduceEqDiff, false_and, if_false, r3, m204, show M4.1 11 a 5 = iN e by rw [k4 11 a 5 (by simp [Wk]), st_at]]
      exact hQ
  cases real with
  | false =>
    refine ⟨st M4 28 a p (l.1 28 p + 1), e90 (enter M _ ⟨fun _ => ⟨rfl, rfl⟩, fun z => absurd z (by decide)⟩), t5, w5, b5, kv⟩
  | true =>
    obtain ⟨M5, w1, w2, w3⟩ := c0 (X := X) (d := d + 4) (x := TC M a 20 4) (y := 0) (z := iN p) (u := iN w) b5
    have kb : ∀ {N N' : Mem}, K3 (fun c b _ => b = a ∧ (c = 30 ∨ c = 31)) N N' → K3 (Wv a) N N' := fun kk => k3_sub kk (fun _ _ _ z => Or.inr (Or.inr z))
    have t6 : TC M5 a = up2 l.1 28 p (l.1 28 p + 1) := (TC_k w3 (fun c j h1 h2 => by omega)).trans t5
    have w6 : M5.1 11 a 5 = iN w := (w3 11 a 5 (by simp)).trans w5
    by_cases h0 : l.2 ≤ 0
    · have hE : visE (TC M a) p (up2 l.1 28 p (l.1 28 p + 1), l.2, w) true = [(TC M a 20 4, 0, iN p, iN w)] := by
        unfold visE
        rw [if_pos rfl, if_neg (Int32.not_lt.mpr h0)]
      rw [hE]
      exact ⟨M5, e90 (enter M _ ⟨fun z => absurd rfl z, fun _ => ⟨M5, w1, fun _ => ⟨rfl, rfl⟩, fun z => absurd h0 z⟩⟩), t6, w6, w2, k3_trans kv (kb w3)⟩
    · have hE : visE (TC M a) p (up2 l.1 28 p (l.1 28 p + 1), l.2, w) true = [(TC M a 20 4, 0, iN p, iN w), (TC M a 20 4, 1, iN p, l.2)] := by
        unfold visE
        rw [if_pos rfl, if_pos (Int32.not_le.mp h0)]
      rw [hE]
      have d5 : M5.1 20 a 4 = TC M a 20 4 := by
        rw [w3 20 a 4 (by simp), st_ne3 (fun z => absurd z.1 (by decide)), m204]
      obtain ⟨M6, y1, y2, y3⟩ := c0 (X := X) (d := d + 4) (x := TC M a 20 4) (y := 1) (z := iN p) (u := l.2) w2
      exact ⟨M6, e90 (enter M _ ⟨fun z => absurd rfl z, fun _ => ⟨M5, w1, fun z => absurd z h0, fun _ => ⟨M6, by rw [d5]; exact y1, rfl, rfl⟩⟩⟩), (TC_k y3 (fun c j h1 h2 => by omega)).trans t6, (y3 11 a 5 (by simp)).trans w6, y2, k3_trans (k3_trans kv (kb w3)) (kb y3)⟩
