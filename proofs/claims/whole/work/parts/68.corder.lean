/-! order in the class -/
abbrev ush (x y : Int32) : Int32 := (x.toUInt32 >>> (Int32.toUInt32 y &&& Int32.toUInt32 31)).toInt32
def bc1 (p : Int32) : Int32 := p - ((ush p 1) &&& 1431655765)
def bc2 (q : Int32) : Int32 := (q &&& 858993459) + ((ush q 2) &&& 858993459)
def bc3 (r : Int32) : Int32 := (r + ush r 4) &&& 252645135
def bc4 (s : Int32) : Int32 := s + ush s 8
def bc5 (t : Int32) : Int32 := (t + ush t 16) &&& 63
def bcE (p : Int32) : Int32 := bc5 (bc4 (bc3 (bc2 (bc1 p))))
theorem c274 {X : Cx} {d : Nat} {M : Mem} {v : Int32} : CC X (d + 1) 274 [vI v] M (some (vI (bcE v))) M := e274 (w274_0 ⟨rfl, rfl⟩)
theorem bc_t : ∀ F : Nat, F < 1024 → bcE (iN F) = iN (cnK F 10) := by decide +kernel
theorem xr_t : ∀ v : Nat, v < 10 → ∀ k : Nat, k < 1024 → (k ^^^ 2 ^ v) < 1024 ∧ (Nat.testBit k v = true → (iN k &&& (((1 : Int32) <<< (iN v &&& 31)) ^^^ (-1))) = iN (k ^^^ 2 ^ v)) := by decide +kernel
theorem sh_t : ∀ n : Nat, n ≤ 10 → ((1 : Int32) <<< (iN n &&& 31)) = iN (2 ^ n) := by decide +kernel
theorem c121 {X : Cx} {d : Nat} {M : Mem} {n : Nat} (hn : n ≤ 5) : CC X (d + 1) 121 [vI (iN n)] M (some (vI (iN (fcN n)))) M := by
  refine e121 (w121_0 ?_)
  have run : ∀ (t i : Nat), i + t = n + 1 → 1 ≤ i → V X (d + 1) 121 4 [some (vI (iN n)), some (vI (iN (fcN (i - 1)))), some (vI (iN i))] [] M (fun r' M' => r' = some (vI (iN (fcN n))) ∧ M' = M) := by
    intro t
    induction t with
    | zero =>
      intro i h1 h2
      have : i = n + 1 := h1
      subst this
      exact w121_4 ⟨fun _ => ⟨rfl, rfl⟩, fun z => absurd ((iN_lt (by omega) (by omega)).mpr (by omega)) z⟩
    | succ t ih =>
      intro i h1 h2
      refine w121_4 ⟨fun z => absurd ((iN_lt (by omega) (by omega)).mp z) (by omega), fun _ => ⟨fun z => absurd ((iN_lt (a := 5) (by decide) (by omega)).mp z) (by omega), fun _ => ?_⟩⟩
      have e : fcN (i + 1 - 1) = fcN (i - 1) * i := by
        rw [show i + 1 - 1 = (i - 1) + 1 by omega]
        show fcN (i - 1) * (i - 1 + 1) = _
        rw [show i - 1 + 1 = i by omega]
      have hP := ih (i + 1) (by omega) (by omega)
      rw [e] at hP
      rw [iN_mul, iN_step]
      exact hP
  by_cases h0 : n = 0
  · subst h0
    exact w121_4 ⟨fun _ => ⟨rfl, rfl⟩, fun z => absurd (by decide) z⟩
  · exact run (n - 1) 2 (by omega) (by omega)
theorem c122 {X : Cx} {d : Nat} {M : Mem} {k p : Nat} (hk : k < 1024) (hp : p < cnK k 10) : CC X (d + 1) 122 [vI (iN k), vI (iN p)] M (some (vI (iN ((bsL k 10).getD p 0)))) M := by
  refine e122 (w122_0 ?_)
  have h10 := cnK_le (k := k) (n := 10)
  have run : ∀ (t j : Nat), j + t = 10 → cnK k j ≤ p → V X (d + 1) 122 4 [some (vI (iN k)), some (vI (iN p)), some (vI (iN (cnK k j))), some (vI (iN j))] [] M (fun r' M' => r' = some (vI (iN ((bsL k 10).getD p 0))) ∧ M' = M) := by
    intro t
    induction t with
    | zero =>
      intro j h1 h2
      have : j = 10 := h1
      subst this
      omega
    | succ t ih =>
      intro j h1 h2
      refine w122_4 ⟨fun z => absurd ((iN_le (a := 10) (by decide) (by omega)).mp z) (by omega), fun _ => ?_⟩
      rw [(pk_i j (by omega) k hk).2.2]
      have hP := ih (j + 1) (by omega)
      by_cases hb : Nat.testBit k j = true
      · have e : cnK k (j + 1) = cnK k j + 1 := if_pos hb
        rw [e] at hP
        rw [if_pos hb, iN_step, iN_step]
        refine ⟨fun z => absurd rfl z, fun _ => ⟨fun z => hP ?_, fun z => ?_⟩⟩
        · have : cnK k j ≠ p := fun y => z (by rw [y])
          omega
        · have z : cnK k j = p := (iN_inj (by omega) (by omega)).mp z
          have := bsL_pre (F := k) (j := 10) (i := j) (by omega) hb
          rw [z] at this
          rw [List.getD_eq_getElem?_getD, this]
          exact ⟨rfl, rfl⟩
      · have e : cnK k (j + 1) = cnK k j := if_neg hb
        rw [e] at hP
        rw [if_neg hb, iN_step]
        exact ⟨fun _ => hP h2, fun z => absurd z (by decide)⟩
  exact run 10 0 (by omega) (Nat.zero_le _)
theorem fcN_le : ∀ n : Nat, n ≤ 5 → fcN n ≤ 120 := by decide
theorem getD_of {l : List Nat} {i : Nat} (h : i < l.length) : l[i]? = some (l.getD i 0) := by
  rw [List.getD_eq_getElem?_getD, List.getElem?_eq_getElem h]
  rfl
theorem getD_mem {l : List Nat} {i : Nat} (h : i < l.length) : l.getD i 0 ∈ l := List.mem_of_getElem? (getD_of h)
/-- the place of a bit in the list of bits -/
theorem bsL_at {k p : Nat} (hp : p < cnK k 10) : cnK k ((bsL k 10).getD p 0) = p := by
  have key : ∀ j, p < cnK k j → j ≤ 10 → ∃ i, i < j ∧ Nat.testBit k i = true ∧ cnK k i = p := by
    intro j
    induction j with
    | zero => intro h _; exact absurd h (Nat.not_lt_zero _)
    | succ j ih =>
      intro h hj
      by_cases hb : Nat.testBit k j = true
      · have e : cnK k (j + 1) = cnK k j + 1 := if_pos hb
        by_cases hp : p < cnK k j
        · obtain ⟨i, a1, a2, a3⟩ := ih hp (by omega)
          exact ⟨i, by omega, a2, a3⟩
        · exact ⟨j, by omega, hb, by omega⟩
      · have e : cnK k (j + 1) = cnK k j := if_neg hb
        obtain ⟨i, a1, a2, a3⟩ := ih (by omega) (by omega)
        exact ⟨i, by omega, a2, a3⟩
  obtain ⟨i, a1, a2, a3⟩ := key 10 hp (Nat.le_refl _)
  have := bsL_pre (F := k) (j := 10) a1 a2
  rw [a3] at this
  rw [List.getD_eq_getElem?_getD, this]
  exact a3
theorem c120_run {X : Cx} {d : Nat} {M : Mem} {Q : Option Vl → Mem → Prop} : ∀ (m k R r : Nat), m ≤ 5 → k < 1024 → cnK k 10 = m → r < fcN m → R * 10 ^ m + 10 ^ m ≤ 2000000 → Q (some (vI (iN (rowF R (ordL m (bsL k 10) r))))) M → V X (d + 2) 120 13 [none, none, some (vI (iN k)), some (vI (iN R)), some (vI (iN r)), some (vI (iN m)), none, none] [] M Q
  | 0, k, R, r, hm, hk, hc, hr, hR, hQ => w120_13 ⟨fun _ => hQ, fun z => absurd (by decide) z⟩
  | m + 1, k, R, r, hm, hk, hc, hr, hR, hQ => by
    have hi := div_fc hr
    have hf := fcN_le m (by omega)
    have hf1 := fcN_le (m + 1) hm
    have hfp := fcN_pos m
    have hl : (bsL k 10).length = m + 1 := by rw [bsL_len]; exact hc
    obtain ⟨v, hv⟩ : ∃ v, v = (bsL k 10).getD (r / fcN m) 0 := ⟨_, rfl⟩
    have hmem := getD_mem (l := bsL k 10) (i := r / fcN m) (by omega)
    rw [← hv] at hmem
    obtain ⟨hv10, hbv⟩ := bsL_mem hmem
    have hat : cnK k v = r / fcN m := by
      rw [hv]
      exact bsL_at (by omega)
    have hx := xr_t v hv10 k hk
    have hcn := cnK_sub hbv (j := 10)
    rw [if_pos hv10] at hcn
    have her := bsL_erase hbv (j := 10)
    rw [if_pos hv10, hat] at her
    have hp10 : 10 ^ (m + 1) = 10 ^ m * 10 := Nat.pow_succ ..
    have hpp : 1 ≤ 10 ^ m := Nat.pow_pos (by decide)
    have hRb : R ≤ 2000000 := by
      have h1 : R * 1 ≤ R * 10 ^ (m + 1) := Nat.mul_le_mul_left R (Nat.pow_pos (by decide))
      omega
    have hrec := c120_run (X := X) (d := d) (M := M) (Q := Q) m (k ^^^ 2 ^ v) (R * 10 + v) (r % fcN m) (by omega) hx.1 (by omega) (Nat.mod_lt _ hfp) (by
      have e : (R * 10 + v) * 10 ^ m = R * (10 ^ m * 10) + v * 10 ^ m := by
        rw [Nat.add_mul, Nat.mul_assoc, Nat.mul_comm 10 (10 ^ m)]
      rw [hp10] at hR
      have h2 : v * 10 ^ m ≤ 9 * 10 ^ m := Nat.mul_le_mul_right _ (by omega)
      rw [e]
      omega) (by
      rw [her]
      have e : ordL (m + 1) (bsL k 10) r = v :: ordL m ((bsL k 10).eraseIdx (r / fcN m)) (r % fcN m) := by
        rw [hv]
        rfl
      rw [e] at hQ
      exact hQ)
    have mx : (if 1 < iN (fcN m) then iN (fcN m) else 1) = iN (fcN m) := by
      by_cases h1 : 1 < fcN m
      · have : (1 : Int32) < iN (fcN m) := (iN_lt (a := 1) (by decide) (by omega)).mpr h1
        rw [if_pos this]
      · have : ¬ (1 : Int32) < iN (fcN m) := fun z => h1 ((iN_lt (a := 1) (by decide) (by omega)).mp z)
        rw [if_neg this, show fcN m = 1 by omega]
        rfl
    have c2 := c122 (X := X) (d := d) (M := M) (k := k) (p := r / fcN m) hk (by omega)
    rw [← hv] at c2
    refine w120_13 ⟨fun z => absurd ((iN_le (b := 0) (by omega) (by decide)).mp z) (by omega), fun _ => ⟨_, _, by rw [iN_pred]; exact c121 (by omega), ?_⟩⟩
    rw [mx]
    have hne : ¬ iN (fcN m) = 0 := fun z => absurd ((iN_inj (b := 0) (by omega) (by decide)).mp z) (by omega)
    refine ⟨hne, _, _, by rw [iN_div (by omega) hfp (by omega)]; exact c2, hne, ?_⟩
    rw [hx.2 hbv, iN_mod (by omega) hfp (by omega), iN_m1, iN_pred, show iN R * 10 + iN v = iN (R * 10 + v) by simp only [iN_lit, iN_mul, iN_add]]
    exact hrec
theorem c120 {X : Cx} {d : Nat} {M : Mem} {F c p : Nat} (hF : F < 1024) (hc : cnK F 10 = c) (h5 : c ≤ 5) (hp : p < fcN c) : CC X (d + 2) 120 [vI (iN F), vI (iN p)] M (some (vI (iN (rowF 1 (ordL c (bsL F 10) p))))) M := by
  refine e120 (w120_0 ⟨_, _, c274, ?_⟩)
  rw [bc_t F hF, hc]
  have h1 : 10 ^ c ≤ 100000 := Nat.le_trans (Nat.pow_le_pow_right (by decide) h5) (by decide)
  exact c120_run c F 1 p h5 hF hc hp (by omega) ⟨rfl, rfl⟩
theorem c123 {X : Cx} {d : Nat} {M : Mem} {R c i : Nat} (h1 : 1 ≤ c) (h6 : c ≤ 6) (hR1 : 10 ^ c ≤ R) (hR2 : R < 2 * 10 ^ c) (hi : i < c) : CC X (d + 2) 123 [vI (iN R), vI (iN i)] M (some (vI (iN (R / 10 ^ (c - 1 - i) % 10)))) M := by
  have hp6 : ∀ j, j ≤ c → 10 ^ j ≤ 1000000 := fun j hj => Nat.le_trans (Nat.pow_le_pow_right (by decide) (show j ≤ 6 by omega)) (by decide)
  have hpp : ∀ j, 1 ≤ 10 ^ j := fun j => Nat.pow_pos (by decide)
  have hc6 := hp6 c (Nat.le_refl _)
  refine e123 (w123_0 ⟨_, _, c149 h1 h6 hR1 hR2, by decide, ?_⟩)
  have e10 : iN (10 ^ c) / 10 = iN (10 ^ (c - 1 - 0)) := by
    rw [iN_lit 10, iN_div (by omega) (by decide) (by decide), Nat.sub_zero]
    congr 1
    rw [show 10 ^ c = 10 ^ (c - 1) * 10 by rw [← Nat.pow_succ]; congr 1; omega, Nat.mul_div_cancel _ (by decide)]
  rw [e10]
  have run : ∀ (t j : Nat), j + t = i → V X (d + 2) 123 10 [some (vI (iN R)), some (vI (iN i)), some (vI (iN (10 ^ (c - 1 - j)))), some (vI (iN j))] [] M (fun r' M' => r' = some (vI (iN (R / 10 ^ (c - 1 - i) % 10))) ∧ M' = M) := by
    intro t
    induction t with
    | zero =>
      intro j hj
      have : j = i := hj
      subst this
      have h7 := hp6 (c - 1 - j) (by omega)
      have h8 := hpp (c - 1 - j)
      refine w123_10 ⟨fun _ => ⟨fun z => absurd ((iN_le (b := 0) (by omega) (by decide)).mp z) (by omega), fun _ => ⟨fun z => absurd ((iN_inj (b := 0) (by omega) (by decide)).mp z) (by omega), by decide, ?_, rfl⟩⟩, fun z => absurd ((iN_le (by omega) (by omega)).mpr (Nat.le_refl _)) z⟩
      have hd : R / 10 ^ (c - 1 - j) ≤ R := Nat.div_le_self ..
      rw [iN_div (by omega) (by omega) (by omega), iN_lit 10, iN_mod (by omega) (by decide) (by decide)]
    | succ t ih =>
      intro j hj
      have h7 := hp6 (c - 1 - j) (by omega)
      refine w123_10 ⟨fun z => absurd ((iN_le (by omega) (by omega)).mp z) (by omega), fun _ => ⟨fun z => absurd ((iN_le (a := 6) (by decide) (by omega)).mp z) (by omega), fun _ => ⟨by decide, ?_⟩⟩⟩
      have e : iN (10 ^ (c - 1 - j)) / 10 = iN (10 ^ (c - 1 - (j + 1))) := by
        rw [iN_lit 10, iN_div (by omega) (by decide) (by decide)]
        congr 1
        rw [show 10 ^ (c - 1 - j) = 10 ^ (c - 1 - (j + 1)) * 10 by rw [← Nat.pow_succ]; congr 1; omega, Nat.mul_div_cancel _ (by decide)]
      rw [e, iN_step]
      exact ih (j + 1) (by omega)
  exact run i 0 (by omega)
/-! hatfuls are never below 0 -/
theorem lvS_nn {L : Lw} {B n5 n6 n7 : Nat} {T : Ld} {p e : Nat} (h : VTn B T n5 n6 n7) (hp : p < n7) (he : e < n6) : ∀ {j : Nat}, j ≤ 10 → ∃ s : Nat, s ≤ 90 * j ∧ (lvS L p e T j).2 = iN s
  | 0, _ => ⟨0, by omega, rfl⟩
  | j + 1, hj => by
    obtain ⟨s, s1, s2⟩ := lvS_nn (L := L) h hp he (j := j) (by omega)
    obtain ⟨x, x1, x2, -⟩ := boot_n (lvS_v (L := L) h hp he (j := j) (by omega)).1 hp (f := j) (by omega)
    obtain ⟨k, k1, -, k2⟩ := askS_n L (lvS L p e T j).1 1 p (some j) (some e)
    show ∃ s : Nat, s ≤ 90 * (j + 1) ∧ (if (lvS L p e T j).1 29 (p * 10 + j) ≤ 0 then lvS L p e T j else (up2 (up2 (lvS L p e T j).1 29 (p * 10 + j) ((lvS L p e T j).1 29 (p * 10 + j) - (lvS L p e T j).1 29 (p * 10 + j) * askS L (lvS L p e T j).1 1 p (some j) (some e) / 1000)) 24 (e * 10 + j) ((lvS L p e T j).1 24 (e * 10 + j) + (lvS L p e T j).1 29 (p * 10 + j) * askS L (lvS L p e T j).1 1 p (some j) (some e) / 1000), (lvS L p e T j).2 + (lvS L p e T j).1 29 (p * 10 + j) * askS L (lvS L p e T j).1 1 p (some j) (some e) / 1000)).2 = iN s
    split
    · exact ⟨s, by omega, s2⟩
    · have hm : x * k ≤ 90 * 1000 := Nat.mul_le_mul x1 k1
      refine ⟨s + x * k / 1000, by omega, ?_⟩
      show (lvS L p e T j).2 + (lvS L p e T j).1 29 (p * 10 + j) * askS L (lvS L p e T j).1 1 p (some j) (some e) / 1000 = _
      rw [s2, x2, k2, iN_mul, iN_lit 1000, iN_div (by omega) (by decide) (by decide), iN_add]
theorem leaveS_nn {L : Lw} {B n5 n6 n7 : Nat} {T : Ld} {p e : Nat} (h : VTn B T n5 n6 n7) (hp : p < n7) (he : e < n6) : ∃ s : Nat, s ≤ 900 ∧ (leaveS L T p e).2 = iN s := by
  obtain ⟨s, s1, s2⟩ := lvS_nn (L := L) h hp he (j := 10) (Nat.le_refl _)
  unfold leaveS
  generalize lvS L p e T 10 = z at s2
  split
  · exact ⟨0, by omega, rfl⟩
  · exact ⟨s, by omega, s2⟩
theorem visit_nn {L : Lw} {B n5 n6 n7 : Nat} {T : Ld} {p e : Nat} {fs : List Nat} {real : Bool} (h : VTn B T n5 n6 n7) (hp : p < n7) (he : e < n6) (hf : ∀ f, f ∈ fs → f < n5) : ∃ s : Nat, s ≤ 900 ∧ (visitS L T n6 p fs e real).2.1 = iN s := by
  have h1 := takeL_v (L := L) hp h hf
  have h2 := VTn.str (L := L) (p := p) (e := e) (real := real) h1
  exact leaveS_nn h2 hp (by
    split
    · exact nxt_lt he
    · exact he)
/-! the best order -/
def stpO (ev : List Nat → Int32) (s : Int32 × List Nat) (l : List Nat) : Int32 × List Nat := if ev l ≤ s.1 then s else (ev l, l)
def hF (ev : List Nat → Int32) (pm : Nat → List Nat) : Nat → Int32 × List Nat
  | 0 => (-1, [])
  | p + 1 => stpO ev (hF ev pm p) (pm p)
def gF (ev : List Nat → Int32) (c : Nat) : Nat → Int32 × List Nat
  | 0 => (-1, [])
  | k + 1 => if okD c k = true then stpO ev (gF ev c k) (dgL c k) else gF ev c k
theorem hF_fold {ev : List Nat → Int32} {pm : Nat → List Nat} : ∀ n : Nat, hF ev pm n = ((List.range n).map pm).foldl (stpO ev) (-1, [])
  | 0 => rfl
  | n + 1 => by
    rw [List.range_succ, List.map_append, List.foldl_append, ← hF_fold n]
    rfl
theorem gF_fold {ev : List Nat → Int32} {c : Nat} : ∀ n : Nat, gF ev c n = (((List.range n).filter (okD c)).map (dgL c)).foldl (stpO ev) (-1, [])
  | 0 => rfl
  | n + 1 => by
    rw [List.range_succ, List.filter_append, List.map_append, List.foldl_append, ← gF_fold n]
    show (if okD c n = true then stpO ev (gF ev c n) (dgL c n) else gF ev c n) = _
    by_cases h : okD c n = true
    · rw [if_pos h]
      simp [h]
    · rw [if_neg h]
      simp [h]
theorem hF_gF {ev : List Nat → Int32} {c : Nat} (h1 : 1 ≤ c) (h5 : c ≤ 5) : hF ev (ordL c (List.range c)) (fcN c) = gF ev c (c ^ c) := by rw [hF_fold, gF_fold, prms h1 h5]
theorem hF_len {ev : List Nat → Int32} {c : Nat} (h0 : ∀ l, l ∈ (List.range (fcN c)).map (ordL c (List.range c)) → (0 : Int32) ≤ ev l) : ∀ n : Nat, n ≤ fcN c → (n = 0 ∧ hF ev (ordL c (List.range c)) n = (-1, [])) ∨ ∃ p, p < n ∧ (hF ev (ordL c (List.range c)) n).2 = ordL c (List.range c) p ∧ (0 : Int32) ≤ (hF ev (ordL c (List.range c)) n).1
  | 0, _ => Or.inl ⟨rfl, rfl⟩
  | n + 1, hn => by
    have hev := h0 (ordL c (List.range c) n) (List.mem_map.mpr ⟨n, List.mem_range.mpr (by omega), rfl⟩)
    refine Or.inr ?_
    show ∃ p, p < n + 1 ∧ (stpO ev (hF ev (ordL c (List.range c)) n) (ordL c (List.range c) n)).2 = _ ∧ (0 : Int32) ≤ (stpO ev (hF ev (ordL c (List.range c)) n) (ordL c (List.range c) n)).1
    unfold stpO
    by_cases hc : ev (ordL c (List.range c) n) ≤ (hF ev (ordL c (List.range c)) n).1
    · rw [if_pos hc]
      rcases hF_len h0 n (by omega) with ⟨-, h2⟩ | ⟨p, h2, h3, h4⟩
      · rw [h2] at hc
        exact absurd (Int32.le_trans hev hc) (by decide)
      · exact ⟨p, by omega, h3, h4⟩
    · rw [if_neg hc]
      exact ⟨n, by omega, rfl, hev⟩
