/-! span, both -/
theorem c19 {X : Cx} {d : Nat} {M : Mem} {a n : Nat} {w : Nat → Nat → Nat} (hn : n ≤ 8) (h0 : 0 < n) (hw : ∀ i j, w i j ≤ 99) (hs : ∀ x y, x < n → y < n → w x y = w y x) (hW : WyC M a w) : ∃ M' : Mem, CC X (d + 3) 19 [vR 50 a, vI (iN n)] M (some (vI (prS n w))) M' ∧ K3 (fun c b _ => (c = 60 ∨ c = 61) ∧ b = a) M M' := by
  obtain ⟨M1, p1, p2, p3⟩ := c21_start (X := X) (d := d + 1) (a := a) (f := 0) (M := M) (x2 := iN n) (x3 := 0) (by decide)
  obtain ⟨r, cr, hr⟩ := c22 (X := X) (d := d) (M := M1) (a := a) (n := n) hn p1
  rcases hr with ⟨rfl, hno⟩ | ⟨e, he, rfl, hke, hlt, hmin⟩
  · have := hno 0 h0 (Nat.zero_testBit 0)
    simp at this
  · have e0 : e = 0 := by
      by_cases h1 : e = 0
      · exact h1
      · rw [if_neg h1] at hlt
        omega
    subst e0
    obtain ⟨M2, q1, q2, q3⟩ := c21_step (X := X) (d := d) (a := a) (x3 := 0) (x4 := 0) (x5 := 0) hn (by decide) he hw (hW.k p2) p1 hlt (fun z => absurd ((iN_le (b := 0) (by omega) (by decide)).mp z) (by omega)) cr
    rw [if_pos rfl] at q1
    have b1 : ∀ x, Nat.testBit (0 ||| 2 ^ 0) x = true ↔ x = 0 := fun x => by
      rw [tb_or, Nat.zero_testBit]
      exact ⟨fun z => z.elim (fun y => absurd y (by decide)) id, Or.inr⟩
    have c1 : cnK (0 ||| 2 ^ 0) n = 1 := by
      rw [cnK_add (Nat.zero_testBit 0) h0]
      have : ∀ m, cnK 0 m = 0 := by
        intro m
        induction m with
        | zero => rfl
        | succ m ih =>
          unfold cnK
          rw [if_neg (by rw [Nat.zero_testBit]; decide), ih]
      rw [this]
    have hP : PrI n w (0 ||| 2 ^ 0) 0 := ⟨by decide, fun x hx => by
      rw [(b1 x).mp hx]
      exact ⟨h0, cnn_refl⟩, (b1 0).mpr rfl, by
      rw [Nat.zero_add]
      exact (phi_ext (fun x _ => b1 x)).symm⟩
    obtain ⟨M3, r1, r2⟩ := c21_prim (X := X) (d := d) (a := a) hn hw hs (n - 1) (0 ||| 2 ^ 0) 0 (rlx w (0 ||| 2 ^ 0) 0 0 (fun v => if v = 0 then 0 else 1000000) n) M2 (by omega) (by omega) hP (fun v hv hkv => by
      have hv0 : v ≠ 0 := fun z => by rw [z, (b1 0).mpr rfl] at hkv; cases hkv
      by_cases hev : 0 < w 0 v
      · have er : rlx w (0 ||| 2 ^ 0) 0 0 (fun v => if v = 0 then 0 else 1000000) n v = min 1000000 (0 + w 0 v) := by
          unfold rlx
          rw [if_pos ⟨hv, hkv, hev⟩]
          show min (if v = 0 then 0 else 1000000) (0 + w 0 v) = _
          rw [if_neg hv0]
        have := hw 0 v
        rw [er, Nat.min_eq_right (by omega), Nat.zero_add]
        refine ⟨fun _ => ⟨0, (b1 0).mpr rfl, rfl, hev⟩, fun u hu _ => ?_⟩
        rw [(b1 u).mp hu]
        exact Nat.le_refl _
      · have er : rlx w (0 ||| 2 ^ 0) 0 0 (fun v => if v = 0 then 0 else 1000000) n v = 1000000 := by
          unfold rlx
          rw [if_neg (fun z => hev z.2.2)]
          exact if_neg hv0
        rw [er]
        refine ⟨fun z => absurd z (by omega), fun u hu h => ?_⟩
        rw [(b1 u).mp hu] at h
        exact absurd h hev) ((hW.k p2).k q2) q1
    refine ⟨M3, e19 (w19_0 ⟨fun _ => ⟨_, _, e21 (w21_0 (p3 _ (q3 _ ?_))), rfl, rfl⟩, fun z => absurd ((iN_inj (b := 0) (by omega) (by decide)).mp z) (by omega)⟩), k3_trans (k3_trans p2 q2) r1⟩
    have := r2 (fun r' M' => r' = some (vI (prS n w)) ∧ M' = M3) ⟨rfl, rfl⟩
    rw [c1] at this
    exact this
/-- Dijkstra's way -/
def DjI (n : Nat) (w : Nat → Nat → Nat) (f k : Nat) (nr rk : Nat → Nat) : Prop :=
  k < 256 ∧ (∀ x, Nat.testBit k x = true → x < n ∧ nr x < 1000000 ∧ rk x < cnK k n) ∧ nr f = 0 ∧ (∀ v, v < n → nr v < 1000000 → nr v ≤ 99 * cnK k n) ∧
  (∀ u v, v < n → Nat.testBit k u = true → 0 < w u v → nr v ≤ nr u + w u v) ∧ (∀ u v, v < n → Nat.testBit k u = true → Nat.testBit k v = false → nr u ≤ nr v) ∧
  ∀ v, v < n → v ≠ f → nr v < 1000000 → ∃ u, Nat.testBit k u = true ∧ 0 < w u v ∧ nr v = nr u + w u v ∧ (Nat.testBit k v = true → rk u < rk v)
theorem DjI.step {n : Nat} {w : Nat → Nat → Nat} (hw : ∀ i j, w i j ≤ 99) (hn : n ≤ 8) {f k e : Nat} {nr rk : Nat → Nat} (h : DjI n w f k nr rk) (he : e < n) (hke : Nat.testBit k e = false) (hlt : nr e < 1000000) (hmin : ∀ v, v < n → Nat.testBit k v = false → nr e ≤ nr v) (hf : nr f = 0) : DjI n w f (k ||| 2 ^ e) (rlx w (k ||| 2 ^ e) e (nr e) nr n) (fun x => if x = e then cnK k n else rk x) := by
  obtain ⟨h1, h2, h3, h4, h5, h6, h7⟩ := h
  have hcn := cnK_add hke he
  have hle := cnK_le (k := k) (n := n)
  have ne8 := h4 e he hlt
  have kept : ∀ v, Nat.testBit (k ||| 2 ^ e) v = true → rlx w (k ||| 2 ^ e) e (nr e) nr n v = nr v := fun v hv => if_neg (fun z => by rw [hv] at z; exact absurd z.2.1 (by decide))
  have rle : ∀ v, rlx w (k ||| 2 ^ e) e (nr e) nr n v ≤ nr v := fun v => by
    unfold rlx
    split <;> omega
  have rge : ∀ v, v < n → Nat.testBit k v = false → nr e ≤ rlx w (k ||| 2 ^ e) e (nr e) nr n v := fun v hv hk => by
    have := hmin v hv hk
    unfold rlx
    split <;> omega
  refine ⟨((pc_t k h1).2 e (by omega)).1, fun x hx => ?_, ?_, fun v hv hl => ?_, fun u v hv hu h0 => ?_, fun u v hv hu hkv => ?_, fun v hv hvf hl => ?_⟩
  · rw [kept x hx]
    rcases tb_or.mp hx with hb | hb
    · obtain ⟨a1, a2, a3⟩ := h2 x hb
      refine ⟨a1, a2, ?_⟩
      show (if x = e then cnK k n else rk x) < _
      rw [hcn]
      split <;> omega
    · subst hb
      refine ⟨he, hlt, ?_⟩
      show (if x = x then cnK k n else rk x) < _
      rw [if_pos rfl, hcn]
      omega
  · have := rle f
    omega
  · rw [hcn]
    have := hw e v
    unfold rlx at hl ⊢
    split
    · rename_i hc
      rw [if_pos hc] at hl
      omega
    · rename_i hc
      rw [if_neg hc] at hl
      have := h4 v hv hl
      omega
  · rcases tb_or.mp hu with hb | hb
    · rw [kept u (tb_or.mpr (Or.inl hb))]
      have := rle v
      have := h5 u v hv hb h0
      omega
    · subst hb
      rw [kept u (tb_or.mpr (Or.inr rfl))]
      by_cases hkv : Nat.testBit (k ||| 2 ^ u) v = true
      · rw [kept v hkv]
        rcases tb_or.mp hkv with h8 | h8
        · have := h6 v u he h8 hke
          omega
        · subst h8
          omega
      · have er : rlx w (k ||| 2 ^ u) u (nr u) nr n v = min (nr v) (nr u + w u v) := if_pos ⟨hv, by simpa using hkv, h0⟩
        rw [er]
        omega
  · have hkv0 : Nat.testBit k v = false := by
      cases hb : Nat.testBit k v with
      | false => rfl
      | true => rw [tb_or.mpr (Or.inl hb)] at hkv; cases hkv
    have g := rge v hv hkv0
    rw [kept u hu]
    rcases tb_or.mp hu with hb | hb
    · have := h6 u e he hb hke
      omega
    · subst hb
      exact g
  · by_cases hc : v < n ∧ Nat.testBit (k ||| 2 ^ e) v = false ∧ 0 < w e v ∧ nr e + w e v < nr v
    · have er : rlx w (k ||| 2 ^ e) e (nr e) nr n v = nr e + w e v := by
        unfold rlx
        rw [if_pos ⟨hc.1, hc.2.1, hc.2.2.1⟩, Nat.min_eq_right (by omega)]
      refine ⟨e, tb_or.mpr (Or.inr rfl), hc.2.2.1, ?_, fun z => ?_⟩
      · rw [er, kept e (tb_or.mpr (Or.inr rfl))]
      · rw [hc.2.1] at z
        cases z
    · have er : rlx w (k ||| 2 ^ e) e (nr e) nr n v = nr v := by
        unfold rlx
        split
        · rename_i hc2
          exact Nat.min_eq_left (Nat.not_lt.mp (fun z => hc ⟨hc2.1, hc2.2.1, hc2.2.2, z⟩))
        · rfl
      rw [er] at hl ⊢
      obtain ⟨u, a1, a2, a3, a4⟩ := h7 v hv hvf hl
      refine ⟨u, tb_or.mpr (Or.inl a1), a2, by rw [kept u (tb_or.mpr (Or.inl a1))]; exact a3, fun hkv => ?_⟩
      have hue : u ≠ e := fun z => by rw [z, hke] at a1; cases a1
      show (if u = e then cnK k n else rk u) < (if v = e then cnK k n else rk v)
      rw [if_neg hue]
      by_cases hve : v = e
      · rw [if_pos hve]
        exact (h2 u a1).2.2
      · rw [if_neg hve]
        rcases tb_or.mp hkv with h8 | h8
        · exact a4 h8
        · exact absurd h8 hve
theorem c21_dij {X : Cx} {d a n f : Nat} {w : Nat → Nat → Nat} (hn : n ≤ 8) (hf : f < n) (hw : ∀ i j, w i j ≤ 99) : ∀ (t k : Nat) (x4 : Int32) (nr rk : Nat → Nat) (M : Mem), cnK k n + t = n → DjI n w f k nr rk → WyC M a w → NrC M a k nr → ∃ (M' : Mem) (k' : Nat) (nr' rk' : Nat → Nat) (r : Int32), DjI n w f k' nr' rk' ∧ (∀ v, v < n → Nat.testBit k' v = false → nr' v = 1000000) ∧ NrC M' a k' nr' ∧ K3 (fun c b _ => (c = 60 ∨ c = 61) ∧ b = a) M M' ∧ ∀ Q : Option Vl → Mem → Prop, Q (some (vI r)) M' → V X (d + 2) 21 49 [some (vR 50 a), none, some (vI (iN n)), some (vI 1), some (vI x4), some (vI (iN (cnK k n))), none, none, none] [] M Q
  | 0, k, x4, nr, rk, M, ht, hD, hW, hN => by
    refine ⟨M, k, nr, rk, x4, hD, fun v hv hkv => ?_, hN, k3_refl, fun Q hQ => w21_49 ⟨fun _ => hQ, fun z => absurd ((iN_le (by omega) (by omega)).mpr (by omega)) z⟩⟩
    exact absurd (cnK_lt hv hkv) (by omega)
  | t + 1, k, x4, nr, rk, M, ht, hD, hW, hN => by
    have hle := cnK_le (k := k) (n := n)
    obtain ⟨r, cr, hr⟩ := c22 (X := X) (d := d) (M := M) (a := a) (n := n) hn hN
    have h5 : ¬ iN n ≤ iN (cnK k n) := fun z => absurd ((iN_le (by omega) (by omega)).mp z) (by omega)
    rcases hr with ⟨rfl, hno⟩ | ⟨e, he, rfl, hke, hlt, hmin⟩
    · exact ⟨M, k, nr, rk, -1, hD, hno, hN, k3_refl, fun Q hQ => w21_49 ⟨fun z => absurd z h5, fun _ => ⟨_, _, cr, fun z => absurd rfl z, fun _ => hQ⟩⟩⟩
    · obtain ⟨M1, q1, q2, q3⟩ := c21_step (X := X) (d := d) (a := a) (x3 := 1) (x4 := x4) (x5 := iN (cnK k n)) hn hD.1 he hw hW hN hlt h5 cr
      rw [if_neg (by decide)] at q1
      have hcn := cnK_add hke he
      obtain ⟨M2, k', nr', rk', r, r1, r2, r3, r4, r5⟩ := c21_dij (X := X) (d := d) (a := a) hn hf hw t (k ||| 2 ^ e) (x4 + iN (nr e)) _ _ M1 (by omega) (hD.step hw hn he hke hlt hmin hD.2.2.1) (hW.k q2) q1
      refine ⟨M2, k', nr', rk', r, r1, r2, r3, k3_trans q2 r4, fun Q hQ => q3 Q ?_⟩
      have := r5 Q hQ
      rw [hcn] at this
      rw [iN_step]
      exact this
theorem DjI.start {n f : Nat} {w : Nat → Nat → Nat} (hf : f < n) : DjI n w f 0 (fun v => if v = f then 0 else 1000000) (fun _ => 0) := by
  have z : ∀ x, Nat.testBit 0 x = true → False := fun x h => by rw [Nat.zero_testBit] at h; cases h
  refine ⟨by decide, fun x hx => (z x hx).elim, if_pos rfl, fun v hv hl => ?_, fun u v hv hu => (z u hu).elim, fun u v hv hu => (z u hu).elim, fun v hv hvf hl => ?_⟩
  · show (if v = f then 0 else 1000000) ≤ _
    by_cases h : v = f
    · rw [if_pos h]; omega
    · have hl : (if v = f then 0 else 1000000) < 1000000 := hl
      rw [if_neg h] at hl; omega
  · have hl : (if v = f then 0 else 1000000) < 1000000 := hl
    rw [if_neg hvf] at hl
    omega
/-- what apart answers -/
theorem c20 {X : Cx} {d : Nat} {M : Mem} {a n f b : Nat} {w : Nat → Nat → Nat} (hn : n ≤ 8) (hf : f < n) (hb : b < n) (hw : ∀ i j, w i j ≤ 99) (hW : WyC M a w) : ∃ (M' : Mem) (k : Nat) (nr rk : Nat → Nat), DjI n w f k nr rk ∧ (∀ v, v < n → Nat.testBit k v = false → nr v = 1000000) ∧ CC X (d + 3) 20 [vR 50 a, vI (iN f), vI (iN b), vI (iN n)] M (some (vI (if Nat.testBit k b = true then iN (nr b) else -1))) M' ∧ K3 (fun c b _ => (c = 60 ∨ c = 61) ∧ b = a) M M' := by
  obtain ⟨M1, p1, p2, p3⟩ := c21_start (X := X) (d := d + 1) (a := a) (f := f) (M := M) (x2 := iN n) (x3 := 1) (by omega)
  have c0 : ∀ m, cnK 0 m = 0 := by
    intro m
    induction m with
    | zero => rfl
    | succ m ih =>
      unfold cnK
      rw [if_neg (by rw [Nat.zero_testBit]; decide), ih]
  obtain ⟨M2, k, nr, rk, r, r1, r2, r3, r4, r5⟩ := c21_dij (X := X) (d := d) (a := a) hn hf hw n 0 0 _ _ M1 (by rw [c0]; omega) (DjI.start (w := w) hf) (hW.k p2) p1
  rw [c0] at r5
  obtain ⟨g1, g2, g3⟩ := r3 b (by omega)
  refine ⟨M2, k, nr, rk, r1, r2, e20 (w20_0 ⟨_, _, e21 (w21_0 (p3 _ (r5 _ ⟨rfl, rfl⟩))), _, _, c146, ?_⟩), k3_trans p2 r4⟩
  rw [show inR (iN b) 0 7 = true from inR_of (lo := 0) (hi := 7) (by omega) (by omega) (by decide), ix_of (by omega), g1, g3]
  have ib : inb (iN b) 8 := inb_of (by omega) (by decide)
  by_cases hbit : Nat.testBit k b = true
  · rw [if_pos hbit, if_pos hbit]
    simp only [forall_eq, true_implies, false_implies, not_true_eq_false, not_false_eq_true, and_true, true_and, and_self, isB0, isB1, bI_t0, bI_f0, i10_, i20_, i01_, i02_, i12_, i21_, ib]
  · rw [if_neg hbit, if_neg hbit]
    simp only [forall_eq, true_implies, false_implies, not_true_eq_false, not_false_eq_true, and_true, true_and, and_self, isB0, isB1, bI_t0, bI_f0, i10_, i20_, i01_, i02_, i12_, i21_, ib]
/-! the reference -/
def WyM (W : Nat → Int32) (w : Nat → Nat → Nat) : Prop := ∀ i j, i < 8 → j < 8 → W (479 + (8 * i + j)) = (if w i j = 0 then -1 else iN (w i j))
def lg (w : Nat → Nat → Nat) (i j : Nat) : Nat := if w i j = 0 then 100000000 else w i j
theorem iN_m1' {x : Nat} (h : x < 2147483648) : ¬ iN x = -1 := fun z => by
  have := iN_nn h
  rw [z] at this
  exact absurd this (by decide)
theorem c262 {X : Cx} {d : Nat} {M : Mem} {i j : Nat} {w : Nat → Nat → Nat} (hw : ∀ i j, w i j ≤ 99) (hW : WyM (M.1 101 0) w) (hi : i < 8) (hj : j < 8) : CC X (d + 1) 262 [vR 100 0, vI (iN i), vI (iN j)] M (some (vI (iN (lg w i j)))) M := by
  have e1 : 479 + 8 * iN i + iN j = iN (479 + (8 * i + j)) := by
    simp only [iN_lit, iN_mul, iN_add]
    congr 1
    omega
  have := hw i j
  refine e262 (w262_0 ?_)
  rw [e1, ix_of (by omega), hW i j hi hj]
  unfold lg
  have ib : inb (iN (479 + (8 * i + j))) 2129 := inb_of (by omega) (by decide)
  by_cases h0 : w i j = 0
  · rw [if_pos h0, if_pos h0]
    exact ⟨ib, fun z => absurd rfl z, fun _ => ⟨rfl, rfl⟩⟩
  · rw [if_neg h0, if_neg h0]
    exact ⟨ib, fun _ => ⟨ib, rfl, rfl⟩, fun z => absurd z (iN_m1' (by omega))⟩
/-- a least way out of k, of those seen -/
def LsI (w : Nat → Nat → Nat) (k : Nat) (seen : Nat → Nat → Prop) (l : Nat) (r : Int32) : Prop :=
  (l = 100000000 ∧ r = -1 ∧ ∀ x y, seen x y → Nat.testBit k x = true → Nat.testBit k y = false → w x y = 0) ∨
  ∃ u v, seen u v ∧ Nat.testBit k u = true ∧ Nat.testBit k v = false ∧ 0 < w u v ∧ l = w u v ∧ r = iN v ∧ ∀ x y, seen x y → Nat.testBit k x = true → Nat.testBit k y = false → 0 < w x y → l ≤ w x y
theorem bit1 {k v : Nat} (hk : k < 256) (hv : v < 8) : ((iN k >>> (iN v &&& 31)) &&& 1) = (if Nat.testBit k v = true then 1 else 0) := (pc_i k hk v hv).2
theorem c263_in {X : Cx} {d n k x : Nat} {M : Mem} {w : Nat → Nat → Nat} {x2 x3 : Int32} (hn : n ≤ 8) (hx : x < n) (hk : k < 256) (hw : ∀ i j, w i j ≤ 99) (h230 : M.1 101 0 230 = iN n) (hW : WyM (M.1 101 0) w) : ∀ (t y l : Nat) (r : Int32), y + t = n → l ≤ 100000000 → LsI w k (fun p q => q < n ∧ (p < x ∨ (p = x ∧ q < y))) l r → ∃ (l' : Nat) (r' : Int32), l' ≤ 100000000 ∧ LsI w k (fun p q => q < n ∧ p < x + 1) l' r' ∧ ∀ Q : Option Vl → Mem → Prop, V X (d + 2) 263 29 [some (vR 100 0), some (vI (iN k)), some (vI x2), some (vI x3), some (vI (iN l')), some (vI r'), some (vI (iN (x + 1))), none] [] M Q → V X (d + 2) 263 45 [some (vR 100 0), some (vI (iN k)), some (vI x2), some (vI x3), some (vI (iN l)), some (vI r), some (vI (iN x)), some (vI (iN y))] [] M Q
  | 0, y, l, r, hy, hl, hI => by
    have : y = n := hy
    subst this
    refine ⟨l, r, hl, ?_, fun Q hQ => w263_45 ⟨inb_l (by decide) (by decide), fun _ => by rw [iN_step]; exact hQ, fun z => absurd ?_ z⟩⟩
    · have es : (fun p q => q < y ∧ (p < x ∨ (p = x ∧ q < y))) = (fun p q => q < y ∧ p < x + 1) := by
        funext p q
        exact propext (by omega)
      rw [es] at hI
      exact hI
    · rw [show ix 230 = 230 from ix_l (by decide), h230]
      exact (iN_le (by omega) (by omega)).mpr (Nat.le_refl _)
  | t + 1, y, l, r, hy, hl, hI => by
    have x230 : M.1 101 0 (ix 230) = iN n := by rw [show ix 230 = 230 from ix_l (by decide)]; exact h230
    have wxy := hw x y
    have ent : ∀ {Q : Option Vl → Mem → Prop}, (((if Nat.testBit k x = true then (1 : Int32) else 0) = 0 → V X (d + 2) 263 45 [some (vR 100 0), some (vI (iN k)), some (vI x2), some (vI x3), some (vI (iN l)), some (vI r), some (vI (iN x)), some (vI (iN (y + 1)))] [] M Q) ∧ (¬ (if Nat.testBit k x = true then (1 : Int32) else 0) = 0 → ((if Nat.testBit k y = true then (1 : Int32) else 0) = 1 → V X (d + 2) 263 45 [some (vR 100 0), some (vI (iN k)), some (vI x2), some (vI x3), some (vI (iN l)), some (vI r), some (vI (iN x)), some (vI (iN (y + 1)))] [] M Q) ∧ (¬ (if Nat.testBit k y = true then (1 : Int32) else 0) = 1 → (iN (lg w x y) < iN l → V X (d + 2) 263 45 [some (vR 100 0), some (vI (iN k)), some (vI x2), some (vI x3), some (vI (iN (lg w x y))), some (vI (iN y)), some (vI (iN x)), some (vI (iN (y + 1)))] [] M Q) ∧ (¬ iN (lg w x y) < iN l → V X (d + 2) 263 45 [some (vR 100 0), some (vI (iN k)), some (vI x2), some (vI x3), some (vI (iN l)), some (vI r), some (vI (iN x)), some (vI (iN (y + 1)))] [] M Q)))) → V X (d + 2) 263 45 [some (vR 100 0), some (vI (iN k)), some (vI x2), some (vI x3), some (vI (iN l)), some (vI r), some (vI (iN x)), some (vI (iN y))] [] M Q := by
      intro Q hQ
      refine w263_45 ⟨inb_l (by decide) (by decide), fun z => absurd ((iN_le (by omega) (by omega)).mp (x230 ▸ z)) (by omega), fun _ => ?_⟩
      rw [bit1 hk (by omega), bit1 hk (by omega), iN_step]
      exact ⟨hQ.1, fun z => ⟨(hQ.2 z).1, fun z2 => ⟨_, _, c262 hw hW (by omega) (by omega), fun z3 => ⟨_, _, c262 hw hW (by omega) (by omega), ((hQ.2 z).2 z2).1 z3⟩, ((hQ.2 z).2 z2).2⟩⟩⟩
    have keep : ¬ (Nat.testBit k x = true ∧ Nat.testBit k y = false ∧ 0 < w x y ∧ w x y < l) → LsI w k (fun p q => q < n ∧ (p < x ∨ (p = x ∧ q < y + 1))) l r := by
      intro hc
      rcases hI with ⟨a1, a2, a3⟩ | ⟨u, v, a1, a2, a3, a4, a5, a6, a7⟩
      · refine Or.inl ⟨a1, a2, fun p q h1 h2 h3 => ?_⟩
        by_cases hpq : p = x ∧ q = y
        · rw [hpq.1] at h2 ⊢
          rw [hpq.2] at h3 ⊢
          by_cases h0 : 0 < w x y
          · exact absurd ⟨h2, h3, h0, by omega⟩ hc
          · omega
        · exact a3 p q ⟨h1.1, by omega⟩ h2 h3
      · refine Or.inr ⟨u, v, ⟨a1.1, by omega⟩, a2, a3, a4, a5, a6, fun p q h1 h2 h3 h4 => ?_⟩
        by_cases hpq : p = x ∧ q = y
        · rw [hpq.1] at h2 h4 ⊢
          rw [hpq.2] at h3 h4 ⊢
          exact Nat.not_lt.mp (fun z => hc ⟨h2, h3, h4, z⟩)
        · exact a7 p q ⟨h1.1, by omega⟩ h2 h3 h4
    by_cases hc : Nat.testBit k x = true ∧ Nat.testBit k y = false ∧ 0 < w x y ∧ w x y < l
    · obtain ⟨c1, c2, c3, c4⟩ := hc
      have el : lg w x y = w x y := if_neg (by omega)
      obtain ⟨l', r', q1, q2, q3⟩ := c263_in (X := X) (d := d) (x2 := x2) (x3 := x3) hn hx hk hw h230 hW t (y + 1) (w x y) (iN y) (by omega) (by omega) (Or.inr ⟨x, y, ⟨by omega, by omega⟩, c1, c2, c3, rfl, rfl, fun p q h1 h2 h3 h4 => by
        by_cases hpq : p = x ∧ q = y
        · rw [hpq.1, hpq.2]
          exact Nat.le_refl _
        · rcases hI with ⟨a1, a2, a3⟩ | ⟨u, v, a1, a2, a3, a4, a5, a6, a7⟩
          · have := a3 p q ⟨h1.1, by omega⟩ h2 h3
            omega
          · have := a7 p q ⟨h1.1, by omega⟩ h2 h3 h4
            omega⟩)
      refine ⟨l', r', q1, q2, fun Q hQ => ent ⟨fun z => ?_, fun _ => ⟨fun z => ?_, fun _ => ⟨fun _ => by rw [el]; exact q3 Q hQ, fun z => absurd ((iN_lt (by omega) (by omega)).mpr (by omega)) z⟩⟩⟩⟩
      · rw [if_pos c1] at z
        exact absurd z (by decide)
      · rw [if_neg (by rw [c2]; decide)] at z
        exact absurd z (by decide)
    · obtain ⟨l', r', q1, q2, q3⟩ := c263_in (X := X) (d := d) (x2 := x2) (x3 := x3) hn hx hk hw h230 hW t (y + 1) l r (by omega) hl (keep hc)
      refine ⟨l', r', q1, q2, fun Q hQ => ent ⟨fun _ => q3 Q hQ, fun z => ⟨fun _ => q3 Q hQ, fun z2 => ⟨fun z3 => ?_, fun _ => q3 Q hQ⟩⟩⟩⟩
      exfalso
      have b1 : Nat.testBit k x = true := by
        cases hb : Nat.testBit k x with
        | true => rfl
        | false => exact absurd (if_neg (by rw [hb]; decide)) z
      have b2 : Nat.testBit k y = false := by
        cases hb : Nat.testBit k y with
        | false => rfl
        | true => exact absurd (if_pos hb) z2
      have hlg : lg w x y ≤ 100000000 := by
        unfold lg
        split <;> omega
      have z3 := (iN_lt (by omega) (by omega)).mp z3
      unfold lg at z3
      by_cases h0 : w x y = 0
      · rw [if_pos h0] at z3
        omega
      · rw [if_neg h0] at z3
        exact hc ⟨b1, b2, by omega, z3⟩
theorem c263_mid {X : Cx} {d n k : Nat} {M : Mem} {w : Nat → Nat → Nat} {x2 x3 : Int32} (hn : n ≤ 8) (hk : k < 256) (hw : ∀ i j, w i j ≤ 99) (h230 : M.1 101 0 230 = iN n) (hW : WyM (M.1 101 0) w) : ∀ (t x l : Nat) (r : Int32), x + t = n → l ≤ 100000000 → LsI w k (fun p q => q < n ∧ p < x) l r → ∃ (l' : Nat) (r' : Int32), LsI w k (fun p q => q < n ∧ p < n) l' r' ∧ ∀ Q : Option Vl → Mem → Prop, ((¬ r' = -1 → V X (d + 2) 263 6 [some (vR 100 0), some (vI (iN k ||| (1 <<< (r' &&& 31)))), some (vI (x2 + iN l')), some (vI (x3 + 1)), none, none, none, none] [] M Q) ∧ (r' = -1 → Q (some (vI (-1))) M)) → V X (d + 2) 263 29 [some (vR 100 0), some (vI (iN k)), some (vI x2), some (vI x3), some (vI (iN l)), some (vI r), some (vI (iN x)), none] [] M Q
  | 0, x, l, r, hx, hl, hI => by
    have : x = n := hx
    subst this
    refine ⟨l, r, hI, fun Q hQ => w263_29 ⟨inb_l (by decide) (by decide), fun _ => hQ, fun z => absurd ?_ z⟩⟩
    rw [show ix 230 = 230 from ix_l (by decide), h230]
    exact (iN_le (by omega) (by omega)).mpr (Nat.le_refl _)
  | t + 1, x, l, r, hx, hl, hI => by
    have x230 : M.1 101 0 (ix 230) = iN n := by rw [show ix 230 = 230 from ix_l (by decide)]; exact h230
    have es : (fun p q => q < n ∧ p < x) = (fun p q => q < n ∧ (p < x ∨ (p = x ∧ q < 0))) := by
      funext p q
      exact propext (by omega)
    rw [es] at hI
    obtain ⟨l1, r1, q1, q2, q3⟩ := c263_in (X := X) (d := d) (x2 := x2) (x3 := x3) hn (by omega) hk hw h230 hW n 0 l r (by omega) hl hI
    obtain ⟨l2, r2, p1, p2⟩ := c263_mid (X := X) (d := d) (x2 := x2) (x3 := x3) hn hk hw h230 hW t (x + 1) l1 r1 (by omega) q1 q2
    exact ⟨l2, r2, p1, fun Q hQ => w263_29 ⟨inb_l (by decide) (by decide), fun z => absurd ((iN_le (by omega) (by omega)).mp (x230 ▸ z)) (by omega), fun _ => q3 Q (p2 Q hQ)⟩⟩
theorem c263_out {X : Cx} {d n : Nat} {M : Mem} {w : Nat → Nat → Nat} (hn : n ≤ 8) (hw : ∀ i j, w i j ≤ 99) (hs : ∀ x y, x < n → y < n → w x y = w y x) (h230 : M.1 101 0 230 = iN n) (hW : WyM (M.1 101 0) w) {Q : Option Vl → Mem → Prop} (hQ : Q (some (vI (prS n w))) M) : ∀ (t k s : Nat), cnK k n + t = n → s ≤ 99 * cnK k n → PrI n w k s → V X (d + 2) 263 6 [some (vR 100 0), some (vI (iN k)), some (vI (iN s)), some (vI (iN (cnK k n))), none, none, none, none] [] M Q
  | 0, k, s, ht, hs99, hP => by
    refine w263_6 ⟨inb_l (by decide) (by decide), fun _ => ?_, fun z => absurd ?_ z⟩
    · rw [hP.done (by omega)] at hQ
      exact hQ
    · rw [show ix 230 = 230 from ix_l (by decide), h230]
      exact (iN_le (by omega) (by omega)).mpr (by omega)
  | t + 1, k, s, ht, hs99, hP => by
    have x230 : M.1 101 0 (ix 230) = iN n := by rw [show ix 230 = 230 from ix_l (by decide)]; exact h230
    obtain ⟨l, r, p1, p2⟩ := c263_mid (X := X) (d := d) (x2 := iN s) (x3 := iN (cnK k n)) hn hP.1 hw h230 hW n 0 100000000 (-1) (by omega) (Nat.le_refl _) (Or.inl ⟨rfl, rfl, fun x y h => absurd h.2 (by omega)⟩)
    refine w263_6 ⟨inb_l (by decide) (by decide), fun z => absurd ((iN_le (by omega) (by omega)).mp (x230 ▸ z)) (by omega), fun _ => p2 Q ?_⟩
    have hex : ∃ v, v < n ∧ Nat.testBit k v = false := by
      refine Classical.byContradiction fun hall => ?_
      have := cnK_all (k := k) (n := n) (fun j hj => by
        cases hb : Nat.testBit k j with
        | true => rfl
        | false => exact absurd ⟨j, hj, hb⟩ hall)
      omega
    rcases p1 with ⟨a1, a2, a3⟩ | ⟨u, v, a1, a2, a3, a4, a5, a6, a7⟩
    · obtain ⟨v, hv, hkv⟩ := hex
      have hst := hP.stuck (fun x y => hw x y) hv hkv (fun x y hx hy h1 h2 => a3 x y ⟨hy, hx⟩ h1 h2)
      rw [hst] at hQ
      exact ⟨fun z => absurd a2 z, fun _ => hQ⟩
    · have wuv := hw u v
      have hP2 : PrI n w (k ||| 2 ^ v) (s + w u v) := hP.step hs hn a2 a1.1 a3 a4 wuv (fun x y hx hy h1 h2 h3 => by rw [← a5]; exact a7 x y ⟨hy, hx⟩ h1 h2 h3)
      have hcn := cnK_add a3 a1.1
      have hrec := c263_out (X := X) (d := d) hn hw hs h230 hW hQ t (k ||| 2 ^ v) (s + w u v) (by omega) (by omega) hP2
      rw [hcn] at hrec
      have hv8 := a1.1
      rw [a6, a5, (pc_i k hP.1 v (by omega)).1, iN_add, iN_step]
      exact ⟨fun _ => hrec, fun z => absurd z (iN_m1' (by omega))⟩
theorem c263 {X : Cx} {d : Nat} {M : Mem} {n : Nat} {w : Nat → Nat → Nat} (hn : n ≤ 8) (hw : ∀ i j, w i j ≤ 99) (hs : ∀ x y, x < n → y < n → w x y = w y x) (h230 : M.1 101 0 230 = iN n) (hW : WyM (M.1 101 0) w) : CC X (d + 2) 263 [vR 100 0] M (some (vI (if n = 0 then 0 else prS n w))) M := by
  refine e263 (w263_0 ?_)
  by_cases h0 : n = 0
  · rw [if_pos h0]
    refine w263_6 ⟨inb_l (by decide) (by decide), fun _ => ⟨rfl, rfl⟩, fun z => absurd ?_ z⟩
    rw [show ix 230 = 230 from ix_l (by decide), h230, h0]
    decide
  · rw [if_neg h0]
    have b1 : ∀ x, Nat.testBit (0 ||| 2 ^ 0) x = true ↔ x = 0 := fun x => by
      rw [tb_or, Nat.zero_testBit]
      exact ⟨fun z => z.elim (fun y => absurd y (by decide)) id, Or.inr⟩
    have c1 : cnK (0 ||| 2 ^ 0) n = 1 := by
      rw [cnK_add (Nat.zero_testBit 0) (by omega)]
      have : ∀ m, cnK 0 m = 0 := by
        intro m
        induction m with
        | zero => rfl
        | succ m ih =>
          unfold cnK
          rw [if_neg (by rw [Nat.zero_testBit]; decide), ih]
      rw [this]
    have hP : PrI n w (0 ||| 2 ^ 0) 0 := ⟨by decide, fun x hx => by
      rw [(b1 x).mp hx]
      exact ⟨by omega, cnn_refl⟩, (b1 0).mpr rfl, by
      rw [Nat.zero_add]
      exact (phi_ext (fun x _ => b1 x)).symm⟩
    have := c263_out (X := X) (d := d) (M := M) hn hw hs h230 hW (Q := fun r' M' => r' = some (vI (prS n w)) ∧ M' = M) ⟨rfl, rfl⟩ (n - 1) (0 ||| 2 ^ 0) 0 (by omega) (by omega) hP
    rw [c1] at this
    exact this
