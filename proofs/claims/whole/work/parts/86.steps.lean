/-! rows: single steps -/
abbrev R0 : Type := Nat ⊕ (Nat × Nat)
def ST (M : Mem) (b : Nat → Nat) (n m : Nat) : R0 → Prop
  | .inl i => CA M b n m i
  | .inr (e, p) => DD M b n m e p
def sE (t : Nat → Nat) (w : Nat) : R0 → R0
  | .inl i => if t i = w then .inl (i + 1) else .inr (1, i)
  | .inr z => .inr z
def sN (t : Nat → Nat) (lo hi : Nat) : R0 → R0
  | .inl i => if t i < 10000 ∧ lo ≤ t i ∧ t i ≤ hi then .inl (i + 1) else .inr (if t i < 10000 then 2 else 1, i)
  | .inr z => .inr z
def vN (t : Nat → Nat) (lo hi : Nat) : R0 → Nat
  | .inl i => if t i < 10000 ∧ lo ≤ t i ∧ t i ≤ hi then t i else 0
  | .inr _ => 0
def inM (m : Nat) : R0 → Prop
  | .inl i => i ≤ m
  | .inr (e, _) => 1 ≤ e ∧ e ≤ 3
theorem sE_m {b : Nat → Nat} {n m w : Nat} (hT : Tok b n m) (hw : w < 30001) : ∀ {r : R0}, inM m r → inM m (sE (tk b n) w r)
  | .inl i, h => by
    unfold sE
    by_cases h1 : tk b n i = w
    · simp only [if_pos h1]
      have := tk_in hT (k := i) (by omega)
      show i + 1 ≤ m
      omega
    · simp only [if_neg h1]
      show 1 ≤ 1 ∧ 1 ≤ 3
      omega
  | .inr _, h => h
theorem sN_m {b : Nat → Nat} {n m lo hi : Nat} (hT : Tok b n m) : ∀ {r : R0}, inM m r → inM m (sN (tk b n) lo hi r)
  | .inl i, h => by
    unfold sN
    by_cases h1 : tk b n i < 10000 ∧ lo ≤ tk b n i ∧ tk b n i ≤ hi
    · simp only [if_pos h1]
      have := tk_in hT (k := i) (by omega)
      show i + 1 ≤ m
      omega
    · simp only [if_neg h1]
      show 1 ≤ (if tk b n i < 10000 then 2 else 1) ∧ (if tk b n i < 10000 then 2 else 1) ≤ 3
      split <;> omega
  | .inr _, h => h
abbrev LgP : Nat → Nat → Nat → Prop := fun c a j => c = 3 ∧ a = 0 ∧ (j = 9 ∨ j = 10 ∨ j = 13 ∨ j = 14)
theorem Sp_g : ∀ c a j, SpP c a j → LgP c a j := fun c a j h => by simp only [SpP] at h; simp only [LgP]; omega
theorem Bl_g : ∀ c a j, BlP c a j → LgP c a j := fun c a j h => by simp only [BlP] at h; simp only [LgP]; omega
theorem c38_s {X : Cx} {d : Nat} {b : Nat → Nat} {n m w : Nat} (hT : Tok b n m) (hw : w < 30001) : ∀ {r : R0} {M : Mem}, ST M b n m r → ∃ M', CC X (d + 2) 38 [vR 3 0, vI (iN w)] M none M' ∧ ST M' b n m (sE (tk b n) w r) ∧ K3 LgP M M'
  | .inl i, M, h => by
    unfold sE
    by_cases h1 : tk b n i = w
    · simp only [if_pos h1]
      obtain ⟨M', p1, p2, p3⟩ := c38 (X := X) (d := d) hT h hw h1
      exact ⟨M', p1, p2, k3_sub p3 Sp_g⟩
    · simp only [if_neg h1]
      obtain ⟨M', p1, p2, p3⟩ := c38_f (X := X) (d := d) hT h hw h1
      exact ⟨M', p1, p2, k3_sub p3 Bl_g⟩
  | .inr _, M, h => ⟨M, c38_d h, h, k3_refl⟩
theorem c39_s {X : Cx} {d : Nat} {b : Nat → Nat} {n m lo hi : Nat} (hT : Tok b n m) (hlo : lo < 10000) (hhi : hi < 10000) : ∀ {r : R0} {M : Mem}, ST M b n m r → ∃ M', CC X (d + 2) 39 [vR 3 0, vI (iN lo), vI (iN hi)] M (some (vI (iN (vN (tk b n) lo hi r)))) M' ∧ ST M' b n m (sN (tk b n) lo hi r) ∧ K3 LgP M M'
  | .inl i, M, h => by
    have htb := tk_b hT i
    have hin : inR (iN (tk b n i)) (iN lo) (iN hi) = (decide (lo ≤ tk b n i) && decide (tk b n i ≤ hi)) := inR_d (by omega) (by omega) (by omega)
    unfold sN vN
    by_cases h1 : tk b n i < 10000 ∧ lo ≤ tk b n i ∧ tk b n i ≤ hi
    · simp only [if_pos h1]
      obtain ⟨M', p1, p2, p3⟩ := c39 (X := X) (d := d) (lo := iN lo) (hi := iN hi) hT h h1.1 (by rw [hin, decide_eq_true h1.2.1, decide_eq_true h1.2.2]; rfl)
      exact ⟨M', p1, p2, k3_sub p3 Sp_g⟩
    · simp only [if_neg h1]
      obtain ⟨M', p1, p2, p3⟩ := c39_f (X := X) (d := d) (lo := iN lo) (hi := iN hi) hT h (by
        rw [hin, Bool.and_eq_true, decide_eq_true_eq, decide_eq_true_eq]
        exact h1)
      exact ⟨M', p1, p2, k3_sub p3 Bl_g⟩
  | .inr _, M, h => ⟨M, c39_d h, h, k3_refl⟩
theorem c34_s {X : Cx} {d : Nat} {b : Nat → Nat} {n m w : Nat} (hT : Tok b n m) (hw : w < 2147483648) : ∀ {r : R0} {M : Mem}, ST M b n m r → CC X (d + 1) 34 [vR 3 0, vI (iN w)] M (some (vI (bI (match r with | .inl i => decide (tk b n i = w) | .inr _ => false)))) M
  | .inl i, M, h => c34 hT h hw
  | .inr _, M, h => c34_d h
/-! the reference's single steps -/
theorem rt_wk {k v w r : Nat} (h : (k = 1 ∧ ((w = 10017 ∧ r = 7) ∨ (w = 10018 ∧ r = 8) ∨ (w = 10019 ∧ r = 9) ∨ (w = 10020 ∧ r = 10))) ∨ (k = 2 ∧ ((w = 10017 ∧ r = 7) ∨ (w = 10005 ∧ r = 11) ∨ (w = 10006 ∧ r = 12) ∨ (w = 10021 ∧ r = 13))) ∨ (k = 3 ∧ w = 10022 ∧ r = 14)) : (rt k v = r) = (v = w) := by
  have a1 := rt1_c v
  have a2 := rt2_c v
  have a3 := rt3_c v
  have hr : ∀ v', rtw k v' = (if k = 1 then rt1 v' else if k = 2 then rt2 v' else rt3 v') := by
    intro v'
    unfold rtw
    rw [if_neg (by omega)]
  refine propext ⟨fun h2 => ?_, fun h2 => ?_⟩
  · have h3 := rt_l r h2 (by omega) (by omega)
    rw [rt_w h3.1 h3.2, hr] at h2
    rcases h with ⟨rfl, h⟩ | ⟨rfl, h⟩ | ⟨rfl, h⟩
    · rw [if_pos rfl] at h2
      omega
    · rw [if_neg (by decide), if_pos rfl] at h2
      omega
    · rw [if_neg (by decide), if_neg (by decide)] at h2
      omega
  · subst h2
    rw [rt_w (by omega) (by omega), hr]
    rcases h with ⟨rfl, h⟩ | ⟨rfl, h⟩ | ⟨rfl, h⟩
    · rw [if_pos rfl]
      omega
    · rw [if_neg (by decide), if_pos rfl]
      omega
    · rw [if_neg (by decide), if_neg (by decide)]
      omega
theorem r18_w {M : Mem} {b : Nat → Nat} {n m k i w r : Nat} (hT : Tok b n m) (h : RS M b n k i) (hr : r < 2147483648) (hw : ∀ v, (rt k v = r) = (v = w)) : (M.1 100 0 18 = iN r) = (tk b n i = w) := by
  have h2 := rt_b (k := k) (tk_b hT i)
  rw [h.2.2.2.2.1, i_eq (by omega) hr, hw]
theorem sg_w {k c : Nat} (hs : sgn c = true) (hc : c < 256) (h40 : 40 ≤ c) : ∀ v, (rt k v = 100 + c) = (v = 20000 + c) := fun v => rt_sg hs hc h40
theorem c177_k {X : Cx} {d : Nat} {M : Mem} {b : Nat → Nat} {n m k i w r : Nat} (hX : StrOk X) (hT : Tok b n m) (hk : k ≤ 3) (h : RS M b n k i) (hr : r < 2147483648) (hw : ∀ v, (rt k v = r) = (v = w)) (hi : tk b n i = w) : ∃ M', CC X (d + 9) 177 [vR 100 0, vI (iN r)] M (some (vI 1)) M' ∧ RS M' b n k (i + 1) ∧ K3 NxP M M' := by
  obtain ⟨M1, p1, p2, p3⟩ := c175 (X := X) (d := d) hX hk h
  have hx : M.1 100 0 18 = iN r := (Iff.of_eq (r18_w hT h hr hw)).mpr hi
  exact ⟨M1, e177 (w177_0 ⟨fun _ => ⟨_, p1, isB1, rfl, rfl⟩, fun z => absurd hx z⟩), p2, p3⟩
theorem c177_kf {X : Cx} {d : Nat} {M : Mem} {b : Nat → Nat} {n m k i w r : Nat} (hT : Tok b n m) (h : RS M b n k i) (hr : r < 2147483648) (hw : ∀ v, (rt k v = r) = (v = w)) (hi : ¬ tk b n i = w) : ∃ M', CC X (d + 9) 177 [vR 100 0, vI (iN r)] M (some (vI 0)) M' ∧ Bad M' b n 1 i ∧ K3 (fun c a j => c = 100 ∧ a = 0 ∧ (j = 21 ∨ j = 22)) M M' :=
  c177_f (d := d + 7) h (fun z => hi ((Iff.of_eq (r18_w hT h hr hw)).mp z))
theorem r18_2 {M : Mem} {b : Nat → Nat} {n m k i : Nat} (hT : Tok b n m) (h : RS M b n k i) : (M.1 100 0 18 = 2) = (tk b n i < 10000) := by
  have h2 := rt_b (k := k) (tk_b hT i)
  rw [h.2.2.2.2.1, show (iN (rt k (tk b n i)) = 2) = (rt k (tk b n i) = 2) from i_eq (b := 2) (by omega) (by decide), rt_num]
theorem RS.st107 {M : Mem} {b : Nat → Nat} {n k i q : Nat} {x : Int32} (h : RS M b n k i) : RS (st M 107 0 q x) b n k i := h.k (P := fun c a j => c = 107) (k3_st rfl) (fun j hj => by decide) (fun j => by decide)
theorem c188_k {X : Cx} {d : Nat} {M : Mem} {b : Nat → Nat} {n m k i q lo hi : Nat} (hX : StrOk X) (hT : Tok b n m) (hk : k ≤ 3) (h : RS M b n k i) (hq : q < 144) (hlo : lo < 10000) (hhi : hi < 10000) (hv : tk b n i < 10000 ∧ lo ≤ tk b n i ∧ tk b n i ≤ hi) : ∃ M', CC X (d + 9) 188 [vR 100 0, vI (iN q), vI (iN lo), vI (iN hi)] M (some (vI 1)) M' ∧ RS M' b n k (i + 1) ∧ M'.1 107 0 q = iN (tk b n i) ∧ K3 (fun c a j => NxP c a j ∨ (c = 107 ∧ a = 0 ∧ j = q)) M M' := by
  have t20 := h.2.2.2.2.2 hv.1
  obtain ⟨M1, p1, p2, p3⟩ := c175 (X := X) (d := d) hX hk (h.st107 (q := q) (x := iN (tk b n i)))
  have cin := c151 (X := X) (d := d + 7) (M := M) (v := M.1 100 0 20) (lo := iN lo) (hi := iN hi)
  rw [t20, inR_d (by omega) (by omega) (by omega), decide_eq_true hv.2.1, decide_eq_true hv.2.2] at cin
  refine ⟨M1, e188 (w188_0 ⟨fun _ => ?_, fun z => absurd ((Iff.of_eq (r18_2 hT h)).mpr hv.1) z⟩), p2, by rw [p3 107 0 q (by simp [NxP]), st_at], k3_trans (k3_st (Or.inr ⟨rfl, rfl, rfl⟩)) (k3_sub p3 (fun c a j z => Or.inl z))⟩
  rw [t20]
  refine ⟨_, _, cin, fun _ => ⟨inb_of hq (by decide), fun M2 hM2 => ?_⟩, fun z => absurd z n10⟩
  rw [ix_of (by omega), t20] at hM2
  subst hM2
  exact ⟨_, p1, isB1, rfl, rfl⟩
theorem c188_kf {X : Cx} {d : Nat} {M : Mem} {b : Nat → Nat} {n m k i lo hi : Nat} {x : Int32} (hT : Tok b n m) (h : RS M b n k i) (hlo : lo < 10000) (hhi : hi < 10000) (hv : ¬ (tk b n i < 10000 ∧ lo ≤ tk b n i ∧ tk b n i ≤ hi)) : ∃ M', CC X (d + 9) 188 [vR 100 0, vI x, vI (iN lo), vI (iN hi)] M (some (vI 0)) M' ∧ Bad M' b n (if tk b n i < 10000 then 2 else 1) i ∧ K3 (fun c a j => c = 100 ∧ a = 0 ∧ (j = 21 ∨ j = 22)) M M' := by
  by_cases hlt : tk b n i < 10000
  · have t20 := h.2.2.2.2.2 hlt
    obtain ⟨M1, p1, p2, p3⟩ := c176 (X := X) (d := d + 7) (e := 2) h
    have cin := c151 (X := X) (d := d + 7) (M := M) (v := M.1 100 0 20) (lo := iN lo) (hi := iN hi)
    rw [t20, inR_d (by omega) (by omega) (by omega), ← Bool.decide_and, decide_eq_false (fun z => hv ⟨hlt, z⟩)] at cin
    refine ⟨M1, e188 (w188_0 ⟨fun _ => ?_, fun z => absurd ((Iff.of_eq (r18_2 hT h)).mpr hlt) z⟩), by rw [if_pos hlt]; exact p2, p3⟩
    rw [t20]
    exact ⟨_, _, cin, fun z => absurd rfl z, fun _ => ⟨_, _, p1, isB0, rfl, rfl⟩⟩
  · obtain ⟨M1, p1, p2, p3⟩ := c176 (X := X) (d := d + 7) (e := 1) h
    exact ⟨M1, e188 (w188_0 ⟨fun z => absurd ((Iff.of_eq (r18_2 hT h)).mp z) hlt, fun _ => ⟨_, _, p1, isB0, rfl, rfl⟩⟩), by rw [if_neg hlt]; exact p2, p3⟩
/-! steps by result: the reference stops at the first fault -/
def RT (M : Mem) (b : Nat → Nat) (n k : Nat) : R0 → Prop
  | .inl i => RS M b n k i
  | .inr (e, p) => Bad M b n e p
def okR0 : R0 → Int32
  | .inl _ => 1
  | .inr _ => 0
abbrev RqP : Nat → Nat → Nat → Prop := fun c a j => a = 0 ∧ ((c = 100 ∧ (j = 17 ∨ j = 18 ∨ j = 19 ∨ j = 20 ∨ j = 21 ∨ j = 22)) ∨ c = 107)
theorem Nx_q : ∀ c a j, NxP c a j → RqP c a j := fun c a j h => by simp only [NxP] at h; simp only [RqP]; omega
theorem b2_q : ∀ c a j, (c = 100 ∧ a = 0 ∧ (j = 21 ∨ j = 22)) → RqP c a j := fun c a j h => by simp only [RqP]; omega
theorem c177_s {X : Cx} {d : Nat} {M : Mem} {b : Nat → Nat} {n m k i w r : Nat} (hX : StrOk X) (hT : Tok b n m) (hk : k ≤ 3) (h : RS M b n k i) (hr : r < 2147483648) (hw : ∀ v, (rt k v = r) = (v = w)) : ∃ M', CC X (d + 9) 177 [vR 100 0, vI (iN r)] M (some (vI (okR0 (sE (tk b n) w (.inl i))))) M' ∧ RT M' b n k (sE (tk b n) w (.inl i)) ∧ K3 (fun c a j => RqP c a j ∧ c ≠ 107) M M' := by
  unfold sE
  by_cases h1 : tk b n i = w
  · simp only [if_pos h1]
    obtain ⟨M', p1, p2, p3⟩ := c177_k (X := X) (d := d) hX hT hk h hr hw h1
    exact ⟨M', p1, p2, k3_sub p3 (fun c a j z => by simp only [NxP] at z; simp only [RqP]; omega)⟩
  · simp only [if_neg h1]
    obtain ⟨M', p1, p2, p3⟩ := c177_kf (X := X) (d := d) hT h hr hw h1
    exact ⟨M', p1, p2, k3_sub p3 (fun c a j z => by simp only [RqP]; omega)⟩
theorem c188_s {X : Cx} {d : Nat} {M : Mem} {b : Nat → Nat} {n m k i q lo hi : Nat} (hX : StrOk X) (hT : Tok b n m) (hk : k ≤ 3) (h : RS M b n k i) (hq : q < 144) (hlo : lo < 10000) (hhi : hi < 10000) : ∃ M', CC X (d + 9) 188 [vR 100 0, vI (iN q), vI (iN lo), vI (iN hi)] M (some (vI (okR0 (sN (tk b n) lo hi (.inl i))))) M' ∧ RT M' b n k (sN (tk b n) lo hi (.inl i)) ∧ (okR0 (sN (tk b n) lo hi (.inl i)) = 1 → M'.1 107 0 q = iN (vN (tk b n) lo hi (.inl i))) ∧ K3 (fun c a j => RqP c a j ∧ (c = 107 → j = q)) M M' := by
  unfold sN vN
  by_cases h1 : tk b n i < 10000 ∧ lo ≤ tk b n i ∧ tk b n i ≤ hi
  · simp only [if_pos h1]
    obtain ⟨M', p1, p2, p3, p4⟩ := c188_k (X := X) (d := d) hX hT hk h hq hlo hhi h1
    exact ⟨M', p1, p2, fun _ => p3, k3_sub p4 (fun c a j z => by simp only [NxP] at z; simp only [RqP]; omega)⟩
  · simp only [if_neg h1]
    obtain ⟨M', p1, p2, p3⟩ := c188_kf (X := X) (d := d) (x := iN q) hT h hlo hhi h1
    exact ⟨M', p1, p2, fun z => absurd z.symm n10, k3_sub p3 (fun c a j z => by simp only [RqP]; omega)⟩
