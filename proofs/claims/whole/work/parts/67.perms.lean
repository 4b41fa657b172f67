/-! orders of a set of fields -/
def fcN : Nat → Nat
  | 0 => 1
  | n + 1 => fcN n * (n + 1)
theorem fcN_pos : ∀ n : Nat, 0 < fcN n
  | 0 => by decide
  | n + 1 => Nat.mul_pos (fcN_pos n) (by omega)
def ordL : Nat → List Nat → Nat → List Nat
  | 0, _, _ => []
  | m + 1, l, r => l.getD (r / fcN m) 0 :: ordL m (l.eraseIdx (r / fcN m)) (r % fcN m)
def dgL (c k : Nat) : List Nat := (List.range c).map (fun i => k / c ^ (c - 1 - i) % c)
def hadN (c k : Nat) : Nat → Nat
  | 0 => 0
  | t + 1 => hadN c k t ||| 2 ^ (k / c ^ t % c)
def okD (c k : Nat) : Bool := Nat.beq (hadN c k c) (2 ^ c - 1)
theorem prms_1 : (List.range (fcN 1)).map (ordL 1 (List.range 1)) = ((List.range (1 ^ 1)).filter (okD 1)).map (dgL 1) := by decide +kernel
theorem prms_2 : (List.range (fcN 2)).map (ordL 2 (List.range 2)) = ((List.range (2 ^ 2)).filter (okD 2)).map (dgL 2) := by decide +kernel
theorem prms_3 : (List.range (fcN 3)).map (ordL 3 (List.range 3)) = ((List.range (3 ^ 3)).filter (okD 3)).map (dgL 3) := by decide +kernel
theorem prms_4 : (List.range (fcN 4)).map (ordL 4 (List.range 4)) = ((List.range (4 ^ 4)).filter (okD 4)).map (dgL 4) := by decide +kernel
theorem prms_5 : (List.range (fcN 5)).map (ordL 5 (List.range 5)) = ((List.range (5 ^ 5)).filter (okD 5)).map (dgL 5) := by decide +kernel
theorem prms {c : Nat} (h1 : 1 ≤ c) (h5 : c ≤ 5) : (List.range (fcN c)).map (ordL c (List.range c)) = ((List.range (c ^ c)).filter (okD c)).map (dgL c) := by
  rcases (show c = 1 ∨ c = 2 ∨ c = 3 ∨ c = 4 ∨ c = 5 by omega) with rfl | rfl | rfl | rfl | rfl
  · exact prms_1
  · exact prms_2
  · exact prms_3
  · exact prms_4
  · exact prms_5
theorem div_fc {m r : Nat} (h : r < fcN (m + 1)) : r / fcN m < m + 1 := by
  rw [Nat.div_lt_iff_lt_mul (fcN_pos m)]
  have e : fcN (m + 1) = fcN m * (m + 1) := rfl
  rw [e, Nat.mul_comm] at h
  exact h
theorem ordL_len : ∀ (m : Nat) (l : List Nat) (r : Nat), (ordL m l r).length = m
  | 0, _, _ => rfl
  | m + 1, l, r => by
    show (_ :: ordL m _ _).length = m + 1
    rw [List.length_cons, ordL_len m]
theorem getD_map {g : Nat → Nat} {l : List Nat} {i : Nat} (h : i < l.length) : (l.map g).getD i 0 = g (l.getD i 0) := by
  rw [List.getD_eq_getElem?_getD, List.getD_eq_getElem?_getD, List.getElem?_map, List.getElem?_eq_getElem h]
  rfl
theorem er_map {g : Nat → Nat} : ∀ (l : List Nat) (i : Nat), (l.map g).eraseIdx i = (l.eraseIdx i).map g
  | [], _ => rfl
  | _ :: _, 0 => rfl
  | x :: l, i + 1 => by
    show g x :: (l.map g).eraseIdx i = g x :: (l.eraseIdx i).map g
    rw [er_map l i]
theorem ordL_map {g : Nat → Nat} : ∀ (m : Nat) (l : List Nat) (r : Nat), l.length = m → r < fcN m → ordL m (l.map g) r = (ordL m l r).map g
  | 0, _, _, _, _ => rfl
  | m + 1, l, r, hl, hr => by
    have hi := div_fc hr
    show (l.map g).getD (r / fcN m) 0 :: ordL m ((l.map g).eraseIdx (r / fcN m)) (r % fcN m) = g (l.getD (r / fcN m) 0) :: (ordL m (l.eraseIdx (r / fcN m)) (r % fcN m)).map g
    rw [getD_map (by omega), er_map, ordL_map m (l.eraseIdx (r / fcN m)) (r % fcN m) (by rw [List.length_eraseIdx_of_lt (by omega), hl]; omega) (Nat.mod_lt _ (fcN_pos m))]
theorem range_getD (l : List Nat) : (List.range l.length).map (fun i => l.getD i 0) = l := by
  apply List.ext_getElem
  · simp
  · intro i h1 h2
    simp only [List.getElem_map, List.getElem_range, List.getD_eq_getElem?_getD, List.getElem?_eq_getElem h2, Option.getD_some]
/-! the bits of a number -/
def bsL (F : Nat) : Nat → List Nat
  | 0 => []
  | j + 1 => if Nat.testBit F j = true then bsL F j ++ [j] else bsL F j
theorem bsL_len {F : Nat} : ∀ {j : Nat}, (bsL F j).length = cnK F j
  | 0 => rfl
  | j + 1 => by
    unfold bsL cnK
    split
    · rw [List.length_append, bsL_len]
      rfl
    · exact bsL_len
theorem bsL_mem {F : Nat} : ∀ {j x : Nat}, x ∈ bsL F j → x < j ∧ Nat.testBit F x = true
  | 0, x, h => by cases h
  | j + 1, x, h => by
    unfold bsL at h
    by_cases hb : Nat.testBit F j = true
    · rw [if_pos hb] at h
      rcases List.mem_append.mp h with h1 | h1
      · have := bsL_mem h1
        exact ⟨by omega, this.2⟩
      · rw [List.mem_singleton] at h1
        subst h1
        exact ⟨by omega, hb⟩
    · rw [if_neg hb] at h
      have := bsL_mem h
      exact ⟨by omega, this.2⟩
theorem bsL_pre {F : Nat} {i : Nat} : ∀ {j : Nat}, i < j → Nat.testBit F i = true → (bsL F j)[cnK F i]? = some i
  | j + 1, h, hb => by
    by_cases hij : i = j
    · subst hij
      unfold bsL
      rw [if_pos hb, ← bsL_len (F := F) (j := i), List.getElem?_append_right (Nat.le_refl _), Nat.sub_self]
      rfl
    · have ih := bsL_pre (F := F) (j := j) (i := i) (by omega) hb
      unfold bsL
      by_cases hbj : Nat.testBit F j = true
      · rw [if_pos hbj, List.getElem?_append_left (by
          have := List.getElem?_eq_some_iff.mp ih
          exact this.1)]
        exact ih
      · rw [if_neg hbj]
        exact ih
theorem cnK_mono {F i : Nat} : ∀ {j : Nat}, i ≤ j → cnK F i ≤ cnK F j
  | 0, h => by
    have : i = 0 := by omega
    rw [this]
    exact Nat.le_refl _
  | j + 1, h => by
    by_cases hij : i = j + 1
    · rw [hij]
      exact Nat.le_refl _
    · have := cnK_mono (F := F) (i := i) (j := j) (by omega)
      show _ ≤ (if Nat.testBit F j = true then cnK F j + 1 else cnK F j)
      split <;> omega
/-- a bit is taken out -/
theorem tb_xor {k v z : Nat} (h : Nat.testBit k v = true) : Nat.testBit (k ^^^ 2 ^ v) z = (Nat.testBit k z && !(decide (z = v))) := by
  rw [Nat.testBit_xor, Nat.testBit_two_pow]
  by_cases hz : z = v
  · subst hz
    simp [h]
  · have : ¬ v = z := fun y => hz y.symm
    simp [hz, this]
theorem cnK_sub {k v : Nat} (h : Nat.testBit k v = true) : ∀ {j : Nat}, cnK (k ^^^ 2 ^ v) j + (if v < j then 1 else 0) = cnK k j
  | 0 => rfl
  | j + 1 => by
    have ih := cnK_sub h (j := j)
    show (if Nat.testBit (k ^^^ 2 ^ v) j = true then cnK (k ^^^ 2 ^ v) j + 1 else cnK (k ^^^ 2 ^ v) j) + _ = (if Nat.testBit k j = true then cnK k j + 1 else cnK k j)
    rw [tb_xor h]
    by_cases hj : j = v
    · subst hj
      rw [h]
      simp
      simp at ih
      omega
    · simp [hj]
      by_cases hb : Nat.testBit k j = true
      · simp [hb]
        by_cases hv : v < j
        · rw [if_pos hv] at ih
          rw [if_pos (by omega)]
          omega
        · rw [if_neg hv] at ih
          rw [if_neg (by omega)]
          omega
      · simp [hb]
        by_cases hv : v < j
        · rw [if_pos hv] at ih
          rw [if_pos (by omega)]
          omega
        · rw [if_neg hv] at ih
          rw [if_neg (by omega)]
          omega
theorem bsL_erase {k v : Nat} (h : Nat.testBit k v = true) : ∀ {j : Nat}, bsL (k ^^^ 2 ^ v) j = if v < j then (bsL k j).eraseIdx (cnK k v) else bsL k j
  | 0 => rfl
  | j + 1 => by
    have ih := bsL_erase h (j := j)
    show (if Nat.testBit (k ^^^ 2 ^ v) j = true then bsL (k ^^^ 2 ^ v) j ++ [j] else bsL (k ^^^ 2 ^ v) j) = (if v < j + 1 then (if Nat.testBit k j = true then bsL k j ++ [j] else bsL k j).eraseIdx (cnK k v) else (if Nat.testBit k j = true then bsL k j ++ [j] else bsL k j))
    rw [tb_xor h]
    by_cases hj : j = v
    · subst hj
      rw [if_neg (Nat.lt_irrefl _)] at ih
      have e : cnK k j = (bsL k j).length := bsL_len.symm
      rw [h, if_neg (by simp), if_pos (by omega), if_pos rfl, ih, e, List.eraseIdx_append_of_length_le (Nat.le_refl _), Nat.sub_self]
      simp
    · have hd : (!decide (j = v)) = true := by simp [hj]
      rw [hd, Bool.and_true, ih]
      by_cases hv : v < j
      · have hl : cnK k v < (bsL k j).length := by
          have := List.getElem?_eq_some_iff.mp (bsL_pre (F := k) hv h)
          exact this.1
        rw [if_pos hv, if_pos (show v < j + 1 by omega)]
        by_cases hb : Nat.testBit k j = true
        · simp only [if_pos hb]
          rw [List.eraseIdx_append_of_lt_length hl]
        · simp only [if_neg hb]
      · rw [if_neg hv, if_neg (show ¬ v < j + 1 by omega)]
/-! rows of digits -/
def rowF : Nat → List Nat → Nat
  | R, [] => R
  | R, f :: fs => rowF (R * 10 + f) fs
theorem rowF_div : ∀ {ds : List Nat} {R : Nat}, (∀ f, f ∈ ds → f < 10) → rowF R ds / 10 ^ ds.length = R
  | [], R, _ => by
    show R / 10 ^ 0 = R
    rw [Nat.pow_zero, Nat.div_one]
  | f :: ds, R, h => by
    have ih := rowF_div (ds := ds) (R := R * 10 + f) (fun g hg => h g (List.mem_cons_of_mem _ hg))
    have hf := h f List.mem_cons_self
    show rowF (R * 10 + f) ds / 10 ^ (ds.length + 1) = R
    rw [Nat.pow_succ, ← Nat.div_div_eq_div_mul, ih]
    omega
theorem rowF_digs : ∀ {ds : List Nat} {R : Nat}, (∀ f, f ∈ ds → f < 10) → digs (rowF R ds) ds.length = ds
  | [], R, _ => rfl
  | f :: ds, R, h => by
    have h1 : ∀ g, g ∈ ds → g < 10 := fun g hg => h g (List.mem_cons_of_mem _ hg)
    have hf := h f List.mem_cons_self
    show (rowF (R * 10 + f) ds / 10 ^ ds.length % 10) :: digs (rowF (R * 10 + f) ds) ds.length = f :: ds
    rw [rowF_digs h1, rowF_div h1, show (R * 10 + f) % 10 = f by omega]
theorem rowF_in {ds : List Nat} (h : ∀ f, f ∈ ds → f < 10) : 10 ^ ds.length ≤ rowF 1 ds ∧ rowF 1 ds < 2 * 10 ^ ds.length := by
  have e := rowF_div (ds := ds) (R := 1) h
  have hp : 0 < 10 ^ ds.length := Nat.pow_pos (by decide)
  constructor
  · exact Nat.not_lt.mp (fun z => by rw [Nat.div_eq_of_lt z] at e; cases e)
  · exact (Nat.div_lt_iff_lt_mul hp).mp (by omega)
theorem ordL_mem : ∀ (m : Nat) (l : List Nat) (r : Nat), l.length = m → r < fcN m → ∀ x, x ∈ ordL m l r → x ∈ l
  | 0, l, r, _, _, x, h => by cases h
  | m + 1, l, r, hl, hr, x, h => by
    have hi := div_fc hr
    rcases List.mem_cons.mp h with h1 | h1
    · rw [h1, List.getD_eq_getElem?_getD, List.getElem?_eq_getElem (show r / fcN m < l.length by omega)]
      exact List.getElem_mem _
    · have := ordL_mem m (l.eraseIdx (r / fcN m)) (r % fcN m) (by rw [List.length_eraseIdx_of_lt (by omega), hl]; omega) (Nat.mod_lt _ (fcN_pos m)) x h1
      exact List.mem_of_mem_eraseIdx this
