/-! mix, both -/
abbrev iL (n : Nat) : Int64 := Int64.ofNat n
theorem iL_add (a b : Nat) : iL a + iL b = iL (a + b) := (Int64.ofNat_add a b).symm
theorem iL_mul (a b : Nat) : iL a * iL b = iL (a * b) := (Int64.ofNat_mul a b).symm
theorem iL_mod {a b : Nat} (ha : a < 9223372036854775808) (hb : b < 9223372036854775808) : iL a % iL b = iL (a % b) := by
  apply Int64.toInt_inj.mp
  have hm : a % b ≤ a := Nat.mod_le a b
  rw [Int64.toInt_mod, Int64.toInt_ofNat_of_lt ha, Int64.toInt_ofNat_of_lt hb, Int64.toInt_ofNat_of_lt (by omega)]
  rfl
theorem iL_of {n : Nat} (h : n < 2147483648) : Int32.toInt64 (iN n) = iL n := Int32.toInt64_ofNat' (by
  show (n : Int) ≤ 2147483647
  omega)
theorem iL_to (n : Nat) : Int64.toInt32 (iL n) = iN n := Int64.toInt32_ofNat'
theorem p0_ : ¬ Int64.ofNat 1000000007 = 0 := by decide
theorem sumN_lt {g : Nat → Nat} (h : ∀ i, g i < 1000000007) : ∀ n : Nat, sumN g n ≤ n * 1000000007
  | 0 => Nat.zero_le _
  | n + 1 => by
    have h1 := sumN_lt h n
    have h2 := h n
    show sumN g n + g n ≤ (n + 1) * 1000000007
    omega
theorem sumN_front {g : Nat → Nat} : ∀ n : Nat, sumN g (n + 1) = g 0 + sumN (fun i => g (i + 1)) n
  | 0 => by show 0 + g 0 = g 0 + 0; omega
  | n + 1 => by
    show sumN g (n + 1) + g (n + 1) = g 0 + (sumN (fun i => g (i + 1)) n + g (n + 1))
    rw [sumN_front n]
    omega
def gS (G : Nat → Nat) (l s : Nat) : Nat := sumN (fun i => G (s - l + i)) (s - (s - l) + 1) % 1000000007
theorem gS_lt {G : Nat → Nat} {l s : Nat} : gS G l s < 1000000007 := Nat.mod_lt _ (by decide)
def mG (T : Ld) (k : Nat) : Nat → Nat → Nat
  | 0, s => if s = 0 then 1 else 0
  | f + 1, s => if T 21 f = iN k then gS (mG T k f) (ix (T 22 f)) s else mG T k f s
theorem mG_lt {T : Ld} {k : Nat} : ∀ (f s : Nat), mG T k f s < 1000000007
  | 0, s => by
    unfold mG
    split <;> omega
  | f + 1, s => by
    unfold mG
    split
    · exact gS_lt
    · exact mG_lt f s
theorem sub0 {s l : Nat} (hs : s ≤ 30) (hl : l ≤ 9999) : (if 0 < iN s - iN l then iN s - iN l else 0) = iN (s - l) := by
  by_cases h : l < s
  · have h1 : (0 : Int32) < iN (s - l) := (iN_lt (a := 0) (by decide) (by omega)).mpr (by omega)
    rw [iN_sub (by omega), if_pos h1]
  · have h1 : iN s ≤ iN l := (iN_le (by omega) (by omega)).mpr (by omega)
    have h2 : (0 : Int32) ≤ iN s := iN_nn (by omega)
    have h3 : iN l ≤ 9999 := (iN_le (b := 9999) (by omega) (by decide)).mpr hl
    have h4 : ¬ (0 : Int32) < iN s - iN l := by
      generalize iN s = x at *
      generalize iN l = y at *
      grind
    rw [if_neg h4, show s - l = 0 by omega]
    rfl
theorem m1_ (x : Int32) : x + (-1) = x - 1 := by grind
theorem c73_in {X : Cx} {d : Nat} {M : Mem} {a l s : Nat} {G : Nat → Nat} {Q : Option Vl → Mem → Prop} (hs : s ≤ 30) (hl : l ≤ 9999) (hG : ∀ i, G i < 1000000007) (hm : ∀ j, j ≤ s → M.1 73 a j = iN (G j)) (hQ : V X (d + 1) 73 2 [some (vR 70 a), none, some (vI (iN l)), some (vI (iN s - 1)), none, none, none] [] (st M 73 a s (iN (gS G l s))) Q) : V X (d + 1) 73 18 [some (vR 70 a), none, some (vI (iN l)), some (vI (iN s)), some (vJ (Int64.ofNat 0)), none, some (vI (iN (s - l)))] [] M Q := by
  refine for_up (P := fun j => V X (d + 1) 73 18 [some (vR 70 a), none, some (vI (iN l)), some (vI (iN s)), some (vJ (iL (sumN (fun i => G (s - l + i)) j))), none, some (vI (iN (s - l + j)))] [] M Q) (n := s - (s - l) + 1) (fun j hj hP => w73_18 ?_) (w73_18 ?_)
  · refine ⟨fun z => absurd ((iN_lt (by omega) (by omega)).mp z) (by omega), fun _ => ⟨inb_of (by omega) (by decide), ?_⟩⟩
    have := hG (s - l + j)
    rw [ix_of (by omega), hm _ (by omega), iL_of (by omega), iL_add, iN_step]
    exact hP
  · refine ⟨fun _ => ⟨p0_, inb_of (by omega) (by decide), ?_⟩, fun z => absurd ((iN_lt (by omega) (by omega)).mpr (by omega)) z⟩
    have h1 := sumN_lt (g := fun i => G (s - l + i)) (fun i => hG _) (s - (s - l) + 1)
    rw [ix_of (by omega), iL_mod (by omega) (by decide), iL_to, m1_]
    rintro M1 rfl
    exact hQ
theorem c73 {X : Cx} {d : Nat} {M : Mem} {a l n : Nat} {G : Nat → Nat} (hn : n ≤ 30) (hl : l ≤ 9999) (hG : ∀ i, G i < 1000000007) (hm : ∀ j, j ≤ n → M.1 73 a j = iN (G j)) : ∃ M', CC X (d + 1) 73 [vR 70 a, vI (iN n), vI (iN l)] M none M' ∧ (∀ j, j ≤ n → M'.1 73 a j = iN (gS G l j)) ∧ K3 (fun c e _ => c = 73 ∧ e = a) M M' := by
  have run : ∀ (t : Nat) (N : Mem), t ≤ n + 1 → (∀ j, j < t → N.1 73 a j = iN (G j)) → (∀ j, t ≤ j → j ≤ n → N.1 73 a j = iN (gS G l j)) → ∃ M', (∀ j, j ≤ n → M'.1 73 a j = iN (gS G l j)) ∧ K3 (fun c e _ => c = 73 ∧ e = a) N M' ∧ ∀ Q : Option Vl → Mem → Prop, Q none M' → V X (d + 1) 73 2 [some (vR 70 a), none, some (vI (iN l)), some (vI (iN t - 1)), none, none, none] [] N Q := by
    intro t
    induction t with
    | zero =>
      intro N _ _ h2
      exact ⟨N, fun j hj => h2 j (Nat.zero_le _) hj, k3_refl, fun Q hQ => w73_2 ⟨fun _ => hQ, fun z => absurd (by decide) z⟩⟩
    | succ t ih =>
      intro N h0 h1 h2
      obtain ⟨M', q1, q2, q3⟩ := ih (st N 73 a t (iN (gS G l t))) (by omega) (fun j hj => by rw [st_ne3 (by omega)]; exact h1 j (by omega)) (fun j hj hj2 => by
        by_cases hjt : j = t
        · subst hjt
          rw [st_at]
        · rw [st_ne3 (by omega)]
          exact h2 j (by omega) hj2)
      refine ⟨M', q1, k3_trans (k3_st ⟨rfl, rfl⟩) q2, fun Q hQ => w73_2 ?_⟩
      rw [iN_pred]
      refine ⟨fun z => absurd z (Int32.not_lt.mpr (iN_nn (by omega))), fun _ => ?_⟩
      rw [sub0 (by omega) hl]
      exact c73_in (by omega) hl hG (fun j hj => h1 j (by omega)) (q3 Q hQ)
  obtain ⟨M', q1, q2, q3⟩ := run (n + 1) M (Nat.le_refl _) (fun j hj => hm j (by omega)) (fun j h1 h2 => absurd h1 (by omega))
  rw [iN_pred] at q3
  exact ⟨M', e73 (w73_0 (q3 _ ⟨rfl, rfl⟩)), q1, q2⟩
theorem c72 {X : Cx} {d : Nat} {M : Mem} {a b k n n5 : Nat} (hk : k < 6) (hn : n ≤ 30) (hs : M.1 71 a k = iN n) (hn5 : n5 ≤ 10) (h5 : M.1 20 b 5 = iN n5) (hl : ∀ f, f < 10 → ∃ l : Nat, l ≤ 9999 ∧ TC M b 22 f = iN l) : ∃ M', CC X (d + 2) 72 [vR 70 a, vI (iN k), vR 20 b] M (some (vI (iN (mG (TC M b) k n5 n)))) M' ∧ K3 (fun c e _ => c = 73 ∧ e = a) M M' := by
  obtain ⟨M1, ⟨i1, i2⟩, hV⟩ := for_fwd (n := n + 1) (M := M)
    (I := fun t Mt => (∀ j, j < t → Mt.1 73 a j = iN (mG (TC M b) k 0 j)) ∧ K3 (fun c e _ => c = 73 ∧ e = a) M Mt)
    (St := fun t Mt Q => V X (d + 2) 72 31 [some (vR 70 a), some (vI (iN k)), some (vR 20 b), some (vI (iN n)), some (vI (iN t))] [] Mt Q)
    (by
      rintro t Mt ht ⟨g1, g2⟩
      refine ⟨st Mt 73 a t (iN (mG (TC M b) k 0 t)), ⟨fun j hj => ?_, k3_trans g2 (k3_st ⟨rfl, rfl⟩)⟩, fun Q hQ => w72_31 ?_⟩
      · by_cases hjt : j = t
        · subst hjt
          rw [st_at]
        · rw [st_ne3 (fun z => hjt z.2.2)]
          exact g1 j (by omega)
      · refine ⟨fun z => absurd ((iN_lt (by omega) (by omega)).mp z) (by omega), fun _ => ⟨fun z => ⟨inb_of (by omega) (by decide), ?_⟩, fun z => ⟨inb_of (by omega) (by decide), ?_⟩⟩⟩
        · rw [ix_of (by omega), iN_step]
          have e : mG (TC M b) k 0 t = 0 := if_neg (fun h => z (by rw [h]; rfl))
          rw [e] at hQ
          rintro M1 rfl
          exact hQ
        · rw [ix_of (by omega), iN_step]
          have e : mG (TC M b) k 0 t = 1 := if_pos ((iN_inj (b := 0) (by omega) (by decide)).mp z)
          rw [e] at hQ
          rintro M1 rfl
          exact hQ)
    ⟨fun j hj => absurd hj (by omega), k3_refl⟩
  obtain ⟨M2, ⟨j1, j2⟩, hW⟩ := for_fwd (n := n5) (M := M1)
    (I := fun f Mt => (∀ j, j ≤ n → Mt.1 73 a j = iN (mG (TC M b) k f j)) ∧ K3 (fun c e _ => c = 73 ∧ e = a) M Mt)
    (St := fun f Mt Q => V X (d + 2) 72 63 [some (vR 70 a), some (vI (iN k)), some (vR 20 b), some (vI (iN n)), some (vI (iN f))] [] Mt Q)
    (by
      rintro f Mt hf ⟨g1, g2⟩
      have c21 : Mt.1 21 b f = TC M b 21 f := by rw [g2 21 b f (by omega)]; exact (TC_rd (by simp [okC]; omega)).symm
      have c22 : Mt.1 22 b f = TC M b 22 f := by rw [g2 22 b f (by omega)]; exact (TC_rd (by simp [okC]; omega)).symm
      have c5 : Mt.1 20 b 5 = iN n5 := by rw [g2 20 b 5 (by omega)]; exact h5
      obtain ⟨l, l1, l2⟩ := hl f (by omega)
      by_cases hc : TC M b 21 f = iN k
      · obtain ⟨M', p1, p2, p3⟩ := c73 (X := X) (d := d) (M := Mt) (a := a) (l := l) (n := n) (G := mG (TC M b) k f) hn l1 (fun i => mG_lt f i) g1
        refine ⟨M', ⟨fun j hj => ?_, k3_trans g2 p3⟩, fun Q hQ => w72_63 ?_⟩
        · rw [p2 j hj]
          show _ = iN (if TC M b 21 f = iN k then gS (mG (TC M b) k f) (ix (TC M b 22 f)) j else mG (TC M b) k f j)
          rw [if_pos hc, l2, ix_of (by omega)]
        · refine ⟨fun z => absurd ((iN_le (by omega) (by omega)).mp (c5 ▸ z)) (by omega), fun _ => ⟨fun z => absurd ((iN_le (a := 10) (by decide) (by omega)).mp z) (by omega), fun _ => ⟨inb_of (by omega) (by decide), ?_⟩⟩⟩
          rw [ix_of (by omega), c21, c22, iN_step, l2]
          exact ⟨fun z => absurd hc z, fun _ => ⟨inb_of (by omega) (by decide), _, p1, hQ⟩⟩
      · refine ⟨Mt, ⟨fun j hj => ?_, g2⟩, fun Q hQ => w72_63 ?_⟩
        · rw [g1 j hj]
          show _ = iN (if TC M b 21 f = iN k then gS (mG (TC M b) k f) (ix (TC M b 22 f)) j else mG (TC M b) k f j)
          rw [if_neg hc]
        · refine ⟨fun z => absurd ((iN_le (by omega) (by omega)).mp (c5 ▸ z)) (by omega), fun _ => ⟨fun z => absurd ((iN_le (a := 10) (by decide) (by omega)).mp z) (by omega), fun _ => ⟨inb_of (by omega) (by decide), ?_⟩⟩⟩
          rw [ix_of (by omega), c21, iN_step]
          exact ⟨fun _ => hQ, fun z => absurd z hc⟩)
    ⟨fun j hj => i1 j (by omega), i2⟩
  have c5 : M2.1 20 b 5 = iN n5 := by rw [j2 20 b 5 (by omega)]; exact h5
  refine ⟨M2, e72 (w72_0 ?_), j2⟩
  refine ⟨fun z => absurd z (Int32.not_lt.mpr (iN_nn (by omega))), fun _ => ⟨fun _ => ⟨inb_of hk (by decide), ?_⟩, fun z => absurd ((iN_lt (b := 6) (by omega) (by decide)).mpr hk) z⟩⟩
  have e1 : (if iN n < 30 then iN n else 30) = iN n := by
    by_cases h30 : n < 30
    · have : iN n < 30 := (iN_lt (b := 30) (by omega) (by decide)).mpr h30
      rw [if_pos this]
    · have : ¬ iN n < 30 := fun z => h30 ((iN_lt (b := 30) (by omega) (by decide)).mp z)
      rw [if_neg this, show n = 30 by omega]
      rfl
  have e2 : (if 0 < iN n then iN n else 0) = iN n := by
    by_cases h0 : 0 < n
    · have : (0 : Int32) < iN n := (iN_lt (a := 0) (by decide) (by omega)).mpr h0
      rw [if_pos this]
    · have : ¬ (0 : Int32) < iN n := fun z => h0 ((iN_lt (a := 0) (by decide) (by omega)).mp z)
      rw [if_neg this, show n = 0 by omega]
      rfl
  rw [ix_of (by omega), hs, e1, e2]
  refine hV _ (w72_31 ⟨fun _ => hW _ (w72_63 ⟨fun _ => ⟨inb_of (by omega) (by decide), ?_, rfl⟩, fun z => absurd ?_ z⟩), fun z => absurd ((iN_lt (by omega) (by omega)).mpr (by omega)) z⟩)
  · rw [ix_of (by omega), j1 n (Nat.le_refl _)]
  · rw [c5]
    exact (iN_le (by omega) (by omega)).mpr (Nat.le_refl _)
/-! the reference -/
theorem stL_1 {M : Mem} {c a j : Nat} {x : Int64} : (stL M c a j x).1 = M.1 := rfl
theorem stL_at {M : Mem} {c a j : Nat} {x : Int64} : (stL M c a j x).2 c a j = x := if_pos ⟨rfl, rfl, rfl⟩
theorem stL_n3 {M : Mem} {c a j j' : Nat} {x : Int64} (h : j' ≠ j) : (stL M c a j x).2 c a j' = M.2 c a j' := if_neg (fun z => h z.2.2)
/-- g gives at k -/
def pG (G : Nat → Nat) (k g : Nat) : Nat := sumN (fun i => G (k - g + i)) (g + 1) % 1000000007
theorem pG_s {G : Nat → Nat} {k g : Nat} (h : g < k) : (pG G k g + G (k - (g + 1))) % 1000000007 = pG G k (g + 1) := by
  unfold pG
  rw [sumN_front (g := fun i => G (k - (g + 1) + i)) (g + 1), Nat.add_zero, Nat.mod_add_mod, Nat.add_comm]
  congr 2
  exact sumN_same (fun i _ => by rw [show k - (g + 1) + (i + 1) = k - g + i by omega])
theorem c245_in {X : Cx} {d k l f : Nat} {x1 : Int32} {G : Nat → Nat} (hk : k ≤ 30) (hl : l ≤ 9999) (hf : f < 10) (hG : ∀ i, G i < 1000000007) : ∀ (t g : Nat) (M : Mem), g + t = min k l → M.1 101 0 (7 + f) = iN l → (∀ j, j < k → M.2 114 0 j = iL (G j)) → M.2 114 0 k = iL (pG G k g) → ∃ M' : Mem, M'.1 = M.1 ∧ M'.2 114 0 k = iL (pG G k (min k l)) ∧ (∀ j, j ≠ k → M'.2 114 0 j = M.2 114 0 j) ∧ ∀ Q : Option Vl → Mem → Prop, V X (d + 1) 245 63 [some (vR 100 0), some (vI x1), some (vI (iN f)), some (vI (iN k - 1)), none] [] M' Q → V X (d + 1) 245 70 [some (vR 100 0), some (vI x1), some (vI (iN f)), some (vI (iN k)), some (vI (iN (g + 1)))] [] M Q
  | 0, g, M, ht, hw, h1, h2 => by
    have hg : g = min k l := ht
    have e7 : 7 + iN f = iN (7 + f) := by simp only [iN_lit, iN_add]
    refine ⟨M, rfl, by rw [← hg]; exact h2, fun _ _ => rfl, fun Q hQ => w245_70 ?_⟩
    rw [m1_, e7, ix_of (by omega), hw]
    by_cases hgk : k < g + 1
    · exact ⟨fun _ => hQ, fun z => absurd ((iN_lt (by omega) (by omega)).mpr hgk) z⟩
    · exact ⟨fun z => absurd ((iN_lt (by omega) (by omega)).mp z) hgk, fun _ => ⟨inb_of (by omega) (by decide), fun _ => hQ, fun z => absurd ((iN_lt (by omega) (by omega)).mpr (by omega)) z⟩⟩
  | t + 1, g, M, ht, hw, h1, h2 => by
    have e7 : 7 + iN f = iN (7 + f) := by simp only [iN_lit, iN_add]
    have hp := gS_lt (G := G) (l := 0) (s := 0)
    have hpg : pG G k g < 1000000007 := Nat.mod_lt _ (by decide)
    have hgk := hG (k - (g + 1))
    obtain ⟨M', q1, q2, q3, q4⟩ := c245_in (X := X) (d := d) (x1 := x1) hk hl hf hG t (g + 1) (stL M 114 0 k (iL (pG G k (g + 1)))) (by omega) hw (fun j hj => by rw [stL_n3 (by omega)]; exact h1 j hj) stL_at
    refine ⟨M', q1, q2, fun j hj => by rw [q3 j hj, stL_n3 hj], fun Q hQ => w245_70 ?_⟩
    rw [e7, ix_of (show 7 + f < 2147483648 by omega), hw, iN_sub (by omega), ix_of (show k < 2147483648 by omega), ix_of (show k - (g + 1) < 2147483648 by omega), h2, h1 _ (by omega), iL_add, iL_mod (by omega) (by decide), pG_s (by omega), iN_step]
    refine ⟨fun z => absurd ((iN_lt (by omega) (by omega)).mp z) (by omega), fun _ => ⟨inb_of (by omega) (by decide), fun z => absurd ((iN_lt (by omega) (by omega)).mp z) (by omega), fun _ => ⟨inb_of (by omega) (by decide), inb_of (by omega) (by decide), p0_, inb_of (by omega) (by decide), ?_⟩⟩⟩
    rintro M1 rfl
    exact q4 Q hQ
theorem pG_0 {G : Nat → Nat} {k : Nat} (h : G k < 1000000007) : pG G k 0 = G k := by
  unfold pG
  show (0 + G (k - 0 + 0)) % 1000000007 = G k
  rw [Nat.sub_zero, Nat.add_zero, Nat.zero_add, Nat.mod_eq_of_lt h]
theorem pG_gS {G : Nat → Nat} {k l : Nat} : pG G k (min k l) = gS G l k := by
  unfold pG gS
  rw [show k - min k l = k - l by omega, show k - (k - l) = min k l by omega]
theorem c245_mid {X : Cx} {d l f : Nat} {x1 : Int32} {G : Nat → Nat} (hl : l ≤ 9999) (hf : f < 10) (hG : ∀ i, G i < 1000000007) : ∀ (t : Nat) (M : Mem), t ≤ 31 → M.1 101 0 (7 + f) = iN l → (∀ j, j < t → M.2 114 0 j = iL (G j)) → (∀ j, t ≤ j → j < 31 → M.2 114 0 j = iL (gS G l j)) → ∃ M' : Mem, M'.1 = M.1 ∧ (∀ j, j < 31 → M'.2 114 0 j = iL (gS G l j)) ∧ ∀ Q : Option Vl → Mem → Prop, V X (d + 1) 245 31 [some (vR 100 0), some (vI x1), some (vI (iN (f + 1))), none, none] [] M' Q → V X (d + 1) 245 63 [some (vR 100 0), some (vI x1), some (vI (iN f)), some (vI (iN t - 1)), none] [] M Q
  | 0, M, ht, hw, h1, h2 => ⟨M, rfl, fun j hj => h2 j (Nat.zero_le _) hj, fun Q hQ => w245_63 ⟨fun _ => by rw [iN_step]; exact hQ, fun z => absurd (by decide) z⟩⟩
  | t + 1, M, ht, hw, h1, h2 => by
    obtain ⟨M1, q1, q2, q3, q4⟩ := c245_in (X := X) (d := d) (k := t) (x1 := x1) (by omega) hl hf hG (min t l) 0 M (by omega) hw (fun j hj => h1 j (by omega)) (by rw [pG_0 (hG t)]; exact h1 t (by omega))
    rw [pG_gS] at q2
    obtain ⟨M2, r1, r2, r3⟩ := c245_mid (X := X) (d := d) (x1 := x1) hl hf hG t M1 (by omega) (by rw [q1]; exact hw) (fun j hj => by rw [q3 j (by omega)]; exact h1 j (by omega)) (fun j hj hj2 => by
      by_cases hjt : j = t
      · subst hjt
        exact q2
      · rw [q3 j hjt]
        exact h2 j (by omega) hj2)
    refine ⟨M2, r1.trans q1, r2, fun Q hQ => w245_63 ?_⟩
    rw [iN_pred]
    exact ⟨fun z => absurd z (Int32.not_lt.mpr (iN_nn (by omega))), fun _ => q4 Q (r3 Q hQ)⟩
theorem c245 {X : Cx} {d : Nat} {M : Mem} {k n n5 : Nat} (hk : k < 6) (hn : n ≤ 30) (hs : M.1 101 0 (543 + k) = iN n) (hn5 : n5 ≤ 10) (h5 : M.1 101 0 229 = iN n5) (hl : ∀ f, f < 10 → ∃ l : Nat, l ≤ 9999 ∧ TM M 22 f = iN l) : ∃ M' : Mem, CC X (d + 1) 245 [vR 100 0, vI (iN k)] M (some (vJ (iL (mG (TM M) k n5 n)))) M' ∧ M'.1 = M.1 := by
  have x229 : ix 229 = 229 := ix_l (by decide)
  obtain ⟨M1, ⟨i1, i2⟩, hV⟩ := for_fwd (n := 31) (M := M)
    (I := fun t Mt => (∀ j, j < t → Mt.2 114 0 j = iL (mG (TM M) k 0 j)) ∧ Mt.1 = M.1)
    (St := fun t Mt Q => V X (d + 1) 245 2 [some (vR 100 0), some (vI (iN k)), some (vI (iN t)), none, none] [] Mt Q)
    (by
      rintro t Mt ht ⟨g1, g2⟩
      refine ⟨stL Mt 114 0 t (iL (mG (TM M) k 0 t)), ⟨fun j hj => ?_, g2⟩, fun Q hQ => w245_2 ?_⟩
      · by_cases hjt : j = t
        · subst hjt
          rw [stL_at]
        · rw [stL_n3 hjt]
          exact g1 j (by omega)
      · refine ⟨fun z => absurd ((iN_le (a := 31) (by decide) (by omega)).mp z) (by omega), fun _ => ⟨fun z => ⟨inb_of (by omega) (by decide), ?_⟩, fun z => ⟨inb_of (by omega) (by decide), ?_⟩⟩⟩
        · rw [ix_of (by omega), iN_step]
          have e : mG (TM M) k 0 t = 0 := if_neg (fun h => z (by rw [h]; rfl))
          rw [e] at hQ
          rintro M1 rfl
          exact hQ
        · rw [ix_of (by omega), iN_step]
          have e : mG (TM M) k 0 t = 1 := if_pos ((iN_inj (b := 0) (by omega) (by decide)).mp z)
          rw [e] at hQ
          rintro M1 rfl
          exact hQ)
    ⟨fun j hj => absurd hj (by omega), rfl⟩
  obtain ⟨M2, ⟨j1, j2⟩, hW⟩ := for_fwd (n := n5) (M := M1)
    (I := fun f Mt => (∀ j, j < 31 → Mt.2 114 0 j = iL (mG (TM M) k f j)) ∧ Mt.1 = M.1)
    (St := fun f Mt Q => V X (d + 1) 245 31 [some (vR 100 0), some (vI (iN k)), some (vI (iN f)), none, none] [] Mt Q)
    (by
      rintro f Mt hf ⟨g1, g2⟩
      have c21 : Mt.1 101 0 (241 + f) = TM M 21 f := by rw [g2]; exact TW_c (show okC 21 f = true by simp [okC]; omega)
      have c22 : Mt.1 101 0 (7 + f) = TM M 22 f := by rw [g2]; exact TW_c (show okC 22 f = true by simp [okC]; omega)
      have c5 : Mt.1 101 0 (ix 229) = iN n5 := by rw [g2, x229]; exact h5
      have e241 : 241 + iN f = iN (241 + f) := by simp only [iN_lit, iN_add]
      obtain ⟨l, l1, l2⟩ := hl f (by omega)
      by_cases hc : TM M 21 f = iN k
      · obtain ⟨M', p1, p2, p3⟩ := c245_mid (X := X) (d := d) (f := f) (x1 := iN k) (G := mG (TM M) k f) l1 (by omega) (fun i => mG_lt f i) 31 Mt (Nat.le_refl _) (by rw [c22]; exact l2) g1 (fun j h1 h2 => absurd h1 (by omega))
        refine ⟨M', ⟨fun j hj => ?_, p1.trans g2⟩, fun Q hQ => w245_31 ?_⟩
        · rw [p2 j hj]
          show _ = iL (if TM M 21 f = iN k then gS (mG (TM M) k f) (ix (TM M 22 f)) j else mG (TM M) k f j)
          rw [if_pos hc, l2, ix_of (by omega)]
        · refine ⟨inb_l (by decide) (by decide), fun z => absurd ((iN_le (by omega) (by omega)).mp (c5 ▸ z)) (by omega), fun _ => ?_⟩
          rw [e241, ix_of (by omega), c21]
          exact ⟨inb_of (by omega) (by decide), fun _ => p3 Q hQ, fun z => absurd hc z⟩
      · refine ⟨Mt, ⟨fun j hj => ?_, g2⟩, fun Q hQ => w245_31 ?_⟩
        · rw [g1 j hj]
          show _ = iL (if TM M 21 f = iN k then gS (mG (TM M) k f) (ix (TM M 22 f)) j else mG (TM M) k f j)
          rw [if_neg hc]
        · refine ⟨inb_l (by decide) (by decide), fun z => absurd ((iN_le (by omega) (by omega)).mp (c5 ▸ z)) (by omega), fun _ => ?_⟩
          rw [e241, ix_of (by omega), c21, iN_step]
          exact ⟨inb_of (by omega) (by decide), fun z => absurd z hc, fun _ => hQ⟩)
    ⟨i1, i2⟩
  have c5 : M2.1 101 0 (ix 229) = iN n5 := by rw [j2, x229]; exact h5
  have e543 : 543 + iN k = iN (543 + k) := by simp only [iN_lit, iN_add]
  refine ⟨M2, e245 (w245_0 (hV _ (w245_2 ⟨fun _ => hW _ (w245_31 ⟨inb_l (by decide) (by decide), fun _ => ?_, fun z => absurd ?_ z⟩), fun z => absurd (by decide) z⟩))), j2⟩
  · rw [e543, ix_of (show 543 + k < 2147483648 by omega), j2, hs, ix_of (by omega), j1 n (by omega)]
    exact ⟨inb_of (by omega) (by decide), inb_of (by omega) (by decide), rfl, rfl⟩
  · rw [c5]
    exact (iN_le (by omega) (by omega)).mpr (Nat.le_refl _)
/-- the product of all -/
def mxP (T : Ld) (n5 : Nat) (u : Nat → Nat) : Nat → Nat
  | 0 => 1
  | c + 1 => mxP T n5 u c * mG T c n5 (u c) % 1000000007
theorem mxP_lt {T : Ld} {n5 : Nat} {u : Nat → Nat} : ∀ c : Nat, mxP T n5 u c < 1000000007
  | 0 => (by show 1 < 1000000007; decide)
  | c + 1 => Nat.mod_lt _ (by decide)
theorem mul_lt {a b : Nat} (ha : a < 1000000007) (hb : b < 1000000007) : a * b < 9223372036854775808 := by
  have := Nat.mul_lt_mul'' ha hb
  omega
theorem op125 {X : Cx} {d : Nat} {M : Mem} {B lc : Nat} {q : Int32} (hw : WldL B M lc) (hs : SumR M 0 (M.1 101 0)) : ∃ (x : Int32) (M1 M2 : Mem), CC X (d + 3) 125 [vR 2 0, vI q] M (some (vI x)) M1 ∧ CC X (d + 3) 246 [vR 100 0, vI q] M1 (some (vI x)) M2 ∧ K3 (fun c e _ => c = 73 ∧ e = 0) M M2 := by
  have hT := hw.1
  obtain ⟨n5, n6, n7, vm, vc⟩ := VT_n hw.2.1 hT
  obtain ⟨c5, c6, c7, q5, q6, q7⟩ := vt_c vc
  obtain ⟨m5, m6, m7, -⟩ := vt_m vm
  have hlC : ∀ f, f < 10 → ∃ l : Nat, l ≤ 9999 ∧ TC M 0 22 f = iN l := vc.2.2.2.2.2.2.2.1
  have hlM : ∀ f, f < 10 → ∃ l : Nat, l ≤ 9999 ∧ TM M 22 f = iN l := vm.2.2.2.2.2.2.2.1
  have cc := c146 (X := X) (d := d + 1) (M := M) (v := q) (lo := 0) (hi := 5)
  have cr (M1 : Mem) := c151 (X := X) (d := d + 1) (M := M1) (v := q) (lo := -1) (hi := 5)
  have cls : ∀ (N : Mem) (k : Nat), k < 6 → K3 (fun c e _ => c = 73 ∧ e = 0) M N → ∀ n : Nat, n ≤ 30 → M.1 71 0 k = iN n → ∃ M', CC X (d + 2) 72 [vR 70 0, vI (iN k), vR 20 0] N (some (vI (iN (mG (TM M) k n5 n)))) M' ∧ K3 (fun c e _ => c = 73 ∧ e = 0) M M' := by
    intro N k hk kN n hn hs
    have eT : TC N 0 = TM M := (TC_k kN (fun c j h1 h2 => by omega)).trans hT
    obtain ⟨M', p1, p2⟩ := c72 (X := X) (d := d) (M := N) (a := 0) (b := 0) (k := k) (n := n) (n5 := n5) hk hn (by rw [kN 71 0 k (by omega)]; exact hs) q5 (by rw [kN 20 0 5 (by omega)]; exact c5) (by rw [eT]; exact hlM)
    rw [eT] at p1
    exact ⟨M', p1, k3_trans kN p2⟩
  have ref : ∀ (N : Mem) (k : Nat), k < 6 → N.1 101 0 = M.1 101 0 → ∀ n : Nat, n ≤ 30 → M.1 101 0 (543 + k) = iN n → ∃ M', CC X (d + 2) 245 [vR 100 0, vI (iN k)] N (some (vJ (iL (mG (TM M) k n5 n)))) M' ∧ M'.1 = N.1 := by
    intro N k hk eN n hn hs
    have eT : TM N = TM M := by
      show TW (N.1 101 0) = TW (M.1 101 0)
      rw [eN]
    obtain ⟨M', p1, p2⟩ := c245 (X := X) (d := d + 1) (M := N) (k := k) (n := n) (n5 := n5) hk hn (by rw [eN]; exact hs) q5 (by rw [eN]; exact m5) (by rw [eT]; exact hlM)
    rw [eT] at p1
    exact ⟨M', p1, p2⟩
  by_cases hq : inR q 0 5 = true
  · rw [hq] at cc
    have hq2 : inR q (-1) 5 = true := by
      simp only [inR, Bool.and_eq_true, decide_eq_true_eq] at hq ⊢
      exact ⟨Int32.le_trans (by decide) hq.1, hq.2⟩
    rw [hq2] at cr
    obtain ⟨k, rfl, hk⟩ := inR_iN (hi := 5) (by decide) hq
    obtain ⟨n, n1, n2, n3⟩ := hs k (by omega)
    obtain ⟨M1, a1, a2⟩ := cls M k (by omega) k3_refl n n1 n2
    obtain ⟨M2, b1, b2⟩ := ref M1 k (by omega) (k3_col a2 (fun _ => by omega)) n n1 n3
    have hm1 : ¬ iN k = -1 := fun z => by
      have := iN_nn (n := k) (by omega)
      rw [z] at this
      exact absurd this (by decide)
    refine ⟨iN (mG (TM M) k n5 n), M1, M2, e125 (w125_0 ⟨_, _, cc, ?_⟩), e246 (w246_0 ⟨_, _, cr M1, ?_⟩), fun c a j hp => by rw [b2]; exact a2 c a j hp⟩
    · simp only [forall_eq, true_implies, false_implies, not_true_eq_false, not_false_eq_true, and_true, true_and, and_self, isB0, isB1, bI_t0, bI_f0, i10_, i20_, i01_, i02_, i12_, i21_]
      exact ⟨_, _, a1, rfl, rfl⟩
    · simp only [forall_eq, true_implies, false_implies, not_true_eq_false, not_false_eq_true, and_true, true_and, and_self, isB0, isB1, bI_t0, bI_f0, i10_, i20_, i01_, i02_, i12_, i21_, hm1]
      exact ⟨_, _, b1, by rw [iL_to], rfl⟩
  · have hq : inR q 0 5 = false := by simpa using hq
    rw [hq] at cc
    by_cases hm1 : q = -1
    · subst hm1
      have hex : ∃ u : Nat → Nat, ∀ k, k < 6 → u k ≤ 30 ∧ M.1 71 0 k = iN (u k) ∧ M.1 101 0 (543 + k) = iN (u k) :=
        ⟨fun k => ix (M.1 71 0 k), fun k hk => by
          obtain ⟨n, n1, n2, n3⟩ := hs k hk
          show ix (M.1 71 0 k) ≤ 30 ∧ M.1 71 0 k = iN (ix (M.1 71 0 k)) ∧ M.1 101 0 (543 + k) = iN (ix (M.1 71 0 k))
          rw [n3, n2, ix_of (by omega)]
          exact ⟨n1, rfl, rfl⟩⟩
      obtain ⟨u, hu⟩ := hex
      obtain ⟨M1, i1, hV⟩ := for_fwd (n := 6) (M := M)
        (I := fun t Mt => K3 (fun c e _ => c = 73 ∧ e = 0) M Mt)
        (St := fun t Mt Q => V X (d + 3) 125 34 [some (vR 2 0), none, some (vJ (iL (mxP (TM M) n5 u t))), none, some (vI (iN t))] [] Mt Q)
        (by
          rintro t Mt ht g
          obtain ⟨M', p1, p2⟩ := cls Mt t ht g (u t) (hu t ht).1 (hu t ht).2.1
          refine ⟨M', p2, fun Q hQ => w125_34 ⟨fun z => absurd ((iN_le (a := 6) (by decide) (by omega)).mp z) (by omega), fun _ => ⟨_, _, p1, p0_, ?_⟩⟩⟩
          have h1 := mG_lt (T := TM M) (k := t) n5 (u t)
          have h2 := mxP_lt (T := TM M) (n5 := n5) (u := u) t
          rw [iL_of (by omega), iL_mul, iL_mod (mul_lt h2 h1) (by decide), iN_step]
          exact hQ)
        k3_refl
      obtain ⟨M2, i2, hW⟩ := for_fwd (n := 6) (M := M1)
        (I := fun t Mt => Mt.1 = M1.1)
        (St := fun t Mt Q => V X (d + 3) 246 28 [some (vR 100 0), none, some (vJ (iL (mxP (TM M) n5 u t))), none, some (vI (iN t))] [] Mt Q)
        (by
          rintro t Mt ht g
          obtain ⟨M', p1, p2⟩ := ref Mt t ht (by rw [g]; exact k3_col i1 (fun _ => by omega)) (u t) (hu t ht).1 (hu t ht).2.2
          refine ⟨M', p2.trans g, fun Q hQ => w246_28 ⟨fun z => absurd ((iN_le (a := 6) (by decide) (by omega)).mp z) (by omega), fun _ => ⟨_, _, p1, p0_, ?_⟩⟩⟩
          have h1 := mG_lt (T := TM M) (k := t) n5 (u t)
          have h2 := mxP_lt (T := TM M) (n5 := n5) (u := u) t
          rw [iL_mul, iL_mod (mul_lt h2 h1) (by decide), iN_step]
          exact hQ)
        rfl
      rw [show inR (-1) (-1) 5 = true by decide] at cr
      refine ⟨iN (mxP (TM M) n5 u 6), M1, M2, e125 (w125_0 ⟨_, _, cc, ?_⟩), e246 (w246_0 ⟨_, _, cr M1, ?_⟩), fun c a j hp => by rw [i2]; exact i1 c a j hp⟩
      · simp only [forall_eq, true_implies, false_implies, not_true_eq_false, not_false_eq_true, and_true, true_and, and_self, isB0, isB1, bI_t0, bI_f0, i10_, i20_, i01_, i02_, i12_, i21_]
        exact hV _ (w125_34 ⟨fun _ => ⟨by rw [iL_to], rfl⟩, fun z => absurd (by decide) z⟩)
      · simp only [forall_eq, true_implies, false_implies, not_true_eq_false, not_false_eq_true, and_true, true_and, and_self, isB0, isB1, bI_t0, bI_f0, i10_, i20_, i01_, i02_, i12_, i21_]
        exact hW _ (w246_28 ⟨fun _ => ⟨by rw [iL_to], rfl⟩, fun z => absurd (by decide) z⟩)
    · have hq2 : inR q (-1) 5 = false := by
        cases hb : inR q (-1) 5 with
        | false => rfl
        | true =>
          simp only [inR, Bool.and_eq_true, decide_eq_true_eq, Bool.and_eq_false_iff, decide_eq_false_iff_not] at hq hb
          rcases hq with h | h
          · exact absurd (by grind) h
          · exact absurd hb.2 h
      rw [hq2] at cr
      refine ⟨-1, M, M, e125 (w125_0 ⟨_, _, cc, ?_⟩), e246 (w246_0 ⟨_, _, cr M, ?_⟩), k3_refl⟩
      · simp only [forall_eq, true_implies, false_implies, not_true_eq_false, not_false_eq_true, and_true, true_and, and_self, isB0, isB1, bI_t0, bI_f0, i10_, i20_, i01_, i02_, i12_, i21_, hm1]
      · simp only [forall_eq, true_implies, false_implies, not_true_eq_false, not_false_eq_true, and_true, true_and, and_self, isB0, isB1, bI_t0, bI_f0, i10_, i20_, i01_, i02_, i12_, i21_]
