/-! doors that hang together, and the least sum of ways: what it comes to, however the doors are taken -/
def clo (n t : Nat) (w : Nat → Nat → Nat) (C : Nat → Prop) : Prop := ∀ x y, x < n → y < n → C x → 0 < w x y → w x y ≤ t → C y
def cnn (n t : Nat) (w : Nat → Nat → Nat) (u v : Nat) : Prop := ∀ C : Nat → Prop, clo n t w C → C u → C v
theorem cnn_refl {n t : Nat} {w : Nat → Nat → Nat} {u : Nat} : cnn n t w u u := fun _ _ h => h
theorem cnn_trans {n t : Nat} {w : Nat → Nat → Nat} {u v x : Nat} (h : cnn n t w u v) (h2 : cnn n t w v x) : cnn n t w u x := fun C hc hu => h2 C hc (h C hc hu)
theorem cnn_symm {n t : Nat} {w : Nat → Nat → Nat} (hw : ∀ x y, x < n → y < n → w x y = w y x) {u v : Nat} (h : cnn n t w u v) : cnn n t w v u := fun C hc hv =>
  Classical.byContradiction fun hu => h (fun x => ¬ C x) (fun x y hx hy h1 h2 h3 h4 => h1 (hc y x hy hx h4 (by rw [hw y x hy hx]; exact h2) (by rw [hw y x hy hx]; exact h3))) hu hv
theorem cnn_edge {n t : Nat} {w : Nat → Nat → Nat} {u v : Nat} (hu : u < n) (hv : v < n) (h1 : 0 < w u v) (h2 : w u v ≤ t) : cnn n t w u v := fun C hc h => hc u v hu hv h h1 h2
def rpT (n t : Nat) (w : Nat → Nat → Nat) (x : Nat) : Prop := ∀ y, y < x → ¬ cnn n t w x y
noncomputable def cnP (P : Nat → Prop) : Nat → Nat
  | 0 => 0
  | j + 1 => cnP P j + @ite Nat (P j) (Classical.propDecidable _) 1 0
theorem cnP_same {P P2 : Nat → Prop} : ∀ {n : Nat}, (∀ x, x < n → (P2 x ↔ P x)) → cnP P2 n = cnP P n
  | 0, _ => rfl
  | n + 1, h => by
    show cnP P2 n + @ite Nat (P2 n) (Classical.propDecidable _) 1 0 = cnP P n + @ite Nat (P n) (Classical.propDecidable _) 1 0
    rw [cnP_same (fun x hx => h x (by omega))]
    by_cases hp : P n
    · rw [if_pos hp, if_pos ((h n (by omega)).mpr hp)]
    · rw [if_neg hp, if_neg (fun z => hp ((h n (by omega)).mp z))]
theorem cnP_add {P P2 : Nat → Prop} {r : Nat} (h1 : P2 r) (h2 : ¬ P r) : ∀ {n : Nat}, r < n → (∀ x, x < n → x ≠ r → (P2 x ↔ P x)) → cnP P2 n = cnP P n + 1
  | n + 1, hr, h => by
    show cnP P2 n + @ite Nat (P2 n) (Classical.propDecidable _) 1 0 = cnP P n + @ite Nat (P n) (Classical.propDecidable _) 1 0 + 1
    by_cases hn : r = n
    · subst hn
      rw [if_pos h1, if_neg h2, cnP_same (fun x hx => h x (by omega) (by omega))]
    · have ih := cnP_add h1 h2 (n := n) (by omega) (fun x hx hne => h x (by omega) hne)
      rw [ih]
      have hi := h n (by omega) (fun z => hn z.symm)
      by_cases hp : P n
      · rw [if_pos hp, if_pos (hi.mpr hp)]
      · rw [if_neg hp, if_neg (fun z => hp (hi.mp z))]
noncomputable def aT (n t : Nat) (w : Nat → Nat → Nat) (S : Nat → Prop) : Nat := cnP (fun x => rpT n t w x ∧ ∃ v, v < n ∧ S v ∧ cnn n t w v x) n
noncomputable def phi (n : Nat) (w : Nat → Nat → Nat) (S : Nat → Prop) : Nat := sumN (fun t => aT n t w S) 99
theorem aT_low {n t : Nat} {w : Nat → Nat → Nat} {S S2 : Nat → Prop} {u v : Nat} (hu : u < n) (hv : v < n) (hSu : S u) (h0 : 0 < w u v) (ht : w u v ≤ t) (hS : ∀ x, x < n → (S2 x ↔ (S x ∨ x = v))) : aT n t w S2 = aT n t w S := by
  refine cnP_same (fun x hx => ⟨fun h => ⟨h.1, ?_⟩, fun h => ⟨h.1, ?_⟩⟩)
  · obtain ⟨y, hy, hs, hc⟩ := h.2
    rcases (hS y hy).mp hs with h1 | h1
    · exact ⟨y, hy, h1, hc⟩
    · subst h1
      exact ⟨u, hu, hSu, cnn_trans (cnn_edge hu hv h0 ht) hc⟩
  · obtain ⟨y, hy, hs, hc⟩ := h.2
    exact ⟨y, hy, (hS y hy).mpr (Or.inl hs), hc⟩
theorem rep_ex {n t : Nat} {w : Nat → Nat → Nat} (hw : ∀ x y, x < n → y < n → w x y = w y x) {v : Nat} (hv : v < n) : ∃ r, r < n ∧ rpT n t w r ∧ cnn n t w v r := by
  obtain ⟨r, h1, h2⟩ := least (P := fun x => cnn n t w v x) v cnn_refl
  refine ⟨r, ?_, fun y hy hc => h2 y hy (cnn_trans h1 hc), h1⟩
  by_cases hrn : r < n
  · exact hrn
  · exact absurd cnn_refl (h2 v (by omega))
theorem aT_high {n t : Nat} {w : Nat → Nat → Nat} (hw : ∀ x y, x < n → y < n → w x y = w y x) {S S2 : Nat → Prop} {v : Nat} (hv : v < n) (hSv : ¬ S v) (hm : ∀ x y, x < n → y < n → S x → ¬ S y → 0 < w x y → t < w x y) (hS : ∀ x, x < n → (S2 x ↔ (S x ∨ x = v))) : aT n t w S2 = aT n t w S + 1 := by
  have hcl : clo n t w S := fun x y hx hy h1 h2 h3 => Classical.byContradiction fun h4 => absurd (hm x y hx hy h1 h4 h2) (by omega)
  obtain ⟨r, hr, hrp, hc⟩ := rep_ex (t := t) hw hv
  have hnv : ∀ y, S y → ¬ cnn n t w y v := fun y hy h => hSv (h S hcl hy)
  refine cnP_add (r := r) ⟨hrp, v, hv, (hS v hv).mpr (Or.inr rfl), hc⟩ (fun h => ?_) hr (fun x hx hne => ⟨fun h => ⟨h.1, ?_⟩, fun h => ⟨h.1, ?_⟩⟩)
  · obtain ⟨y, hy, hs, hc2⟩ := h.2
    exact hnv y hs (cnn_trans hc2 (cnn_symm hw hc))
  · obtain ⟨y, hy, hs, hc2⟩ := h.2
    rcases (hS y hy).mp hs with h1 | h1
    · exact ⟨y, hy, h1, hc2⟩
    · subst h1
      exfalso
      have hrx : cnn n t w r x := cnn_trans (cnn_symm hw hc) hc2
      rcases Nat.lt_trichotomy x r with h3 | h3 | h3
      · exact hrp x h3 hrx
      · exact hne h3
      · exact h.1 r h3 (cnn_symm hw hrx)
  · obtain ⟨y, hy, hs, hc2⟩ := h.2
    exact ⟨y, hy, (hS y hy).mpr (Or.inl hs), hc2⟩
theorem sumN_step {f g : Nat → Nat} {m : Nat} : ∀ {N : Nat}, (∀ t, t < N → g t = f t + (if t < m then 1 else 0)) → sumN g N = sumN f N + min m N
  | 0, _ => by show 0 = 0 + min m 0; omega
  | N + 1, h => by
    show sumN g N + g N = sumN f N + f N + min m (N + 1)
    rw [sumN_step (fun t ht => h t (by omega)), h N (by omega)]
    split <;> omega
/-- a door is taken by a least way -/
theorem phi_step {n : Nat} {w : Nat → Nat → Nat} (hw : ∀ x y, x < n → y < n → w x y = w y x) {S S2 : Nat → Prop} {u v : Nat} (hu : u < n) (hv : v < n) (hSu : S u) (hSv : ¬ S v) (h0 : 0 < w u v) (h99 : w u v ≤ 99) (hm : ∀ x y, x < n → y < n → S x → ¬ S y → 0 < w x y → w u v ≤ w x y) (hS : ∀ x, x < n → (S2 x ↔ (S x ∨ x = v))) : phi n w S2 = phi n w S + w u v := by
  unfold phi
  rw [sumN_step (f := fun t => aT n t w S) (m := w u v) (fun t ht => ?_), Nat.min_eq_left h99]
  show aT n t w S2 = aT n t w S + (if t < w u v then 1 else 0)
  by_cases htm : t < w u v
  · rw [if_pos htm]
    exact aT_high hw hv hSv (fun x y hx hy h1 h2 h3 => Nat.lt_of_lt_of_le htm (hm x y hx hy h1 h2 h3)) hS
  · rw [if_neg htm]
    exact aT_low hu hv hSu h0 (by omega) hS
theorem phi_ext {n : Nat} {w : Nat → Nat → Nat} {S S2 : Nat → Prop} (h : ∀ x, x < n → (S2 x ↔ S x)) : phi n w S2 = phi n w S := by
  unfold phi
  refine sumN_same (fun t _ => cnP_same (fun x _ => ⟨fun h2 => ⟨h2.1, ?_⟩, fun h2 => ⟨h2.1, ?_⟩⟩))
  · obtain ⟨y, hy, hs, hc⟩ := h2.2
    exact ⟨y, hy, (h y hy).mp hs, hc⟩
  · obtain ⟨y, hy, hs, hc⟩ := h2.2
    exact ⟨y, hy, (h y hy).mpr hs, hc⟩
/-- the doors of k have been taken, from door 0 on, with the sum s -/
def PrI (n : Nat) (w : Nat → Nat → Nat) (k s : Nat) : Prop := k < 256 ∧ (∀ x, Nat.testBit k x = true → x < n ∧ cnn n 99 w 0 x) ∧ Nat.testBit k 0 = true ∧ s + phi n w (fun x => x = 0) = phi n w (fun x => Nat.testBit k x = true)
theorem PrI.step {n : Nat} {w : Nat → Nat → Nat} (hw : ∀ x y, x < n → y < n → w x y = w y x) (hn : n ≤ 8) {k s u v : Nat} (h : PrI n w k s) (hu : Nat.testBit k u = true) (hv : v < n) (hkv : Nat.testBit k v = false) (h0 : 0 < w u v) (h99 : w u v ≤ 99) (hm : ∀ x y, x < n → y < n → Nat.testBit k x = true → Nat.testBit k y = false → 0 < w x y → w u v ≤ w x y) : PrI n w (k ||| 2 ^ v) (s + w u v) := by
  obtain ⟨h1, h2, h3, h4⟩ := h
  have hun := (h2 u hu).1
  refine ⟨((pc_t k h1).2 v (by omega)).1, fun x hx => ?_, tb_or.mpr (Or.inl h3), ?_⟩
  · rcases tb_or.mp hx with h5 | h5
    · exact h2 x h5
    · subst h5
      exact ⟨hv, cnn_trans (h2 u hu).2 (cnn_edge hun hv h0 h99)⟩
  · rw [phi_step hw hun hv (S := fun x => Nat.testBit k x = true) (S2 := fun x => Nat.testBit (k ||| 2 ^ v) x = true) hu (by show ¬ Nat.testBit k v = true; rw [hkv]; decide) h0 h99 (fun x y hx hy q1 q2 q3 => hm x y hx hy q1 (by simpa using q2) q3) (fun x _ => tb_or)]
    omega
noncomputable def prS (n : Nat) (w : Nat → Nat → Nat) : Int32 := @ite Int32 (∀ x, x < n → cnn n 99 w 0 x) (Classical.propDecidable _) (iN (phi n w (fun x => x < n) - phi n w (fun x => x = 0))) (-1)
theorem PrI.done {n : Nat} {w : Nat → Nat → Nat} {k s : Nat} (h : PrI n w k s) (hc : cnK k n = n) : prS n w = iN s := by
  have hall : ∀ x, x < n → Nat.testBit k x = true := fun x hx => by
    cases hb : Nat.testBit k x with
    | true => rfl
    | false => exact absurd (cnK_lt hx hb) (by omega)
  unfold prS
  rw [if_pos (fun x hx => (h.2.1 x (hall x hx)).2)]
  have e : phi n w (fun x => x < n) = phi n w (fun x => Nat.testBit k x = true) := phi_ext (fun x hx => ⟨fun _ => hall x hx, fun _ => hx⟩)
  rw [e, ← h.2.2.2, Nat.add_sub_cancel]
theorem PrI.stuck {n : Nat} {w : Nat → Nat → Nat} {k s v : Nat} (h : PrI n w k s) (hw99 : ∀ x y, w x y ≤ 99) (hv : v < n) (hkv : Nat.testBit k v = false) (hno : ∀ x y, x < n → y < n → Nat.testBit k x = true → Nat.testBit k y = false → w x y = 0) : prS n w = -1 := by
  unfold prS
  rw [if_neg (fun hall => ?_)]
  have := hall v hv (fun x => Nat.testBit k x = true) (fun x y hx hy h1 h2 h3 => by
    cases hb : Nat.testBit k y with
    | true => exact hb
    | false => exact absurd (hno x y hx hy h1 hb) (by omega)) h.2.2.1
  rw [hkv] at this
  cases this
