/-! the world's list -/
set_option maxRecDepth 100000 in
theorem qPAIRS_nodup : qPAIRS.Nodup := by decide +kernel
theorem nodup_at {α : Type} {l : List α} {i j : Nat} {x : α} (hn : l.Nodup) (hi : l[i]? = some x) (hj : l[j]? = some x) : i = j := by
  obtain ⟨h1, h2⟩ := List.getElem?_eq_some_iff.mp hi
  obtain ⟨h3, h4⟩ := List.getElem?_eq_some_iff.mp hj
  have hp := List.pairwise_iff_getElem.mp hn
  rcases Nat.lt_trichotomy i j with h | h | h
  · exact absurd (h2.trans h4.symm) (hp i j h1 h3 h)
  · exact h
  · exact absurd (h4.trans h2.symm) (hp j i h3 h1 h)
theorem map_set_at {α β : Type} {l : List α} {f g : α → β} {k : Nat} {x : α} (hk : l[k]? = some x) (hn : l.Nodup) (h : ∀ y ∈ l, y ≠ x → f y = g y) : (l.map f).set k (g x) = l.map g := by
  apply List.ext_getElem?
  intro i
  by_cases hik : k = i
  · subst hik
    have hl : k < (l.map f).length := by rw [List.length_map]; exact (List.getElem?_eq_some_iff.mp hk).1
    rw [List.getElem?_set_self hl, List.getElem?_map, hk]
    rfl
  · rw [List.getElem?_set_ne hik, List.getElem?_map, List.getElem?_map]
    cases hi : l[i]? with
    | none => rfl
    | some y =>
      have hy : y ≠ x := by
        intro hxy
        subst hxy
        exact hik (nodup_at hn hk hi)
      exact congrArg some (h y (List.mem_of_getElem? hi) hy)
theorem wl_get {X : Cx} {M : Mem} {c a : Nat} (h : (c, a) ∈ qPAIRS) : ∃ q0 : Nat, (qwl X M)[q0]? = some (xa X c a, qent X M c a) ∧ qPAIRS[q0]? = some (c, a) := by
  obtain ⟨k, hk⟩ := List.getElem?_of_mem h
  exact ⟨k, by unfold qwl; rw [List.getElem?_map, hk]; rfl, hk⟩
theorem wl_set {X : Cx} {M M' : Mem} {c a q0 : Nat} (hp : qPAIRS[q0]? = some (c, a)) (h : ∀ p ∈ qPAIRS, p ≠ (c, a) → qent X M p.1 p.2 = qent X M' p.1 p.2) : (qwl X M).set q0 (xa X c a, qent X M' c a) = qwl X M' :=
  map_set_at (f := fun p : Nat × Nat => (xa X p.1 p.2, qent X M p.1 p.2)) (g := fun p : Nat × Nat => (xa X p.1 p.2, qent X M' p.1 p.2)) hp qPAIRS_nodup (fun y hy hne => congrArg (Prod.mk _) (h y hy hne))
theorem wl_D {X : Cx} {M : Mem} (h : XD X) : va_D (inW X) (qwl X M) := by
  refine ⟨fun i j p q hi hj hpq => ?_, fun k q hk => ?_⟩
  · unfold qwl at hi hj
    rw [List.getElem?_map, Option.map_eq_some_iff] at hi hj
    obtain ⟨x, hx, rfl⟩ := hi
    obtain ⟨y, hy, rfl⟩ := hj
    have hxy := h x (List.mem_of_getElem? hx) y (List.mem_of_getElem? hy) hpq
    subst hxy
    exact nodup_at qPAIRS_nodup hx hy
  · unfold qwl at hk
    rw [List.getElem?_map, Option.map_eq_some_iff] at hk
    obtain ⟨x, hx, rfl⟩ := hk
    exact ⟨x, List.mem_of_getElem? hx, rfl⟩
theorem st_ne {M : Mem} {c a j c' a' : Nat} {x : Int32} (h : ¬ (c' = c ∧ a' = a)) : (st M c a j x).1 c' a' = M.1 c' a' := by
  funext j'
  show (if c' = c ∧ a' = a ∧ j' = j then x else M.1 c' a' j') = _
  rw [if_neg (fun z => h ⟨z.1, z.2.1⟩)]
theorem st_eq {M : Mem} {c a j : Nat} {x : Int32} : (st M c a j x).1 c a = upd (M.1 c a) j x := by
  funext j'
  show (if c = c ∧ a = a ∧ j' = j then x else M.1 c a j') = (if j' = j then x else M.1 c a j')
  by_cases h : j' = j
  · rw [if_pos h, if_pos ⟨rfl, rfl, h⟩]
  · rw [if_neg h, if_neg (fun z => h z.2.2)]
theorem stL_ne {M : Mem} {c a j c' a' : Nat} {x : Int64} (h : ¬ (c' = c ∧ a' = a)) : (stL M c a j x).2 c' a' = M.2 c' a' := by
  funext j'
  show (if c' = c ∧ a' = a ∧ j' = j then x else M.2 c' a' j') = _
  rw [if_neg (fun z => h ⟨z.1, z.2.1⟩)]
theorem stL_eq {M : Mem} {c a j : Nat} {x : Int64} : (stL M c a j x).2 c a = vp_updL (M.2 c a) j x := by
  funext j'
  show (if c = c ∧ a = a ∧ j' = j then x else M.2 c a j') = (if j' = j then x else M.2 c a j')
  by_cases h : j' = j
  · rw [if_pos h, if_pos ⟨rfl, rfl, h⟩]
  · rw [if_neg h, if_neg (fun z => h z.2.2)]
theorem cpy_ne {M : Mem} {c0 a0 c a sp dp n c' a' : Nat} (h : ¬ (c' = c ∧ a' = a)) : (cpy M c0 a0 c a sp dp n).1 c' a' = M.1 c' a' := by
  funext j'
  show (if c' = c ∧ a' = a ∧ dp ≤ j' ∧ j' < dp + n then _ else M.1 c' a' j') = _
  rw [if_neg (fun z => h ⟨z.1, z.2.1⟩)]
theorem cpy_eq {M : Mem} {c0 a0 c a sp dp n : Nat} : (cpy M c0 a0 c a sp dp n).1 c a = va_cpy (M.1 c0 a0) (M.1 c a) sp dp n := by
  funext j'
  show (if c = c ∧ a = a ∧ dp ≤ j' ∧ j' < dp + n then M.1 c0 a0 (sp + (j' - dp)) else M.1 c a j') = (if dp ≤ j' ∧ j' < dp + n then M.1 c0 a0 (sp + (j' - dp)) else M.1 c a j')
  by_cases h : dp ≤ j' ∧ j' < dp + n
  · rw [if_pos h, if_pos ⟨rfl, rfl, h⟩]
  · rw [if_neg h, if_neg (fun z => h z.2.2)]
/-- a cell depends on its own column and instance alone -/
theorem qent_congr {X : Cx} {M M' : Mem} {c a : Nat} (h1 : M.1 c a = M'.1 c a) (h2 : M.2 c a = M'.2 c a) : qent X M c a = qent X M' c a := by
  have hf : ∀ j f, qfv X M c a j f = qfv X M' c a j f := by
    intro j f
    unfold qfv
    rw [h1]
  unfold qent
  rw [h1, h2]
  split <;> first | rfl | (congr 2; apply List.ext_getElem?; intro i; rw [List.getElem?_mapIdx, List.getElem?_mapIdx]; congr 1; funext f; exact hf i f)
theorem pair_ne {c a c' a' : Nat} (h : (c', a') ≠ (c, a)) : ¬ (c' = c ∧ a' = a) := fun z => h (by rw [z.1, z.2])
theorem wl_st {X : Cx} {M : Mem} {c a j q0 : Nat} {x : Int32} (hp : qPAIRS[q0]? = some (c, a)) : (qwl X M).set q0 (xa X c a, qent X (st M c a j x) c a) = qwl X (st M c a j x) :=
  wl_set hp (fun p _ hne => qent_congr (st_ne (pair_ne hne)).symm rfl)
theorem wl_stL {X : Cx} {M : Mem} {c a j q0 : Nat} {x : Int64} (hp : qPAIRS[q0]? = some (c, a)) : (qwl X M).set q0 (xa X c a, qent X (stL M c a j x) c a) = qwl X (stL M c a j x) :=
  wl_set hp (fun p _ hne => qent_congr rfl (stL_ne (pair_ne hne)).symm)
theorem wl_cpy {X : Cx} {M : Mem} {c0 a0 c a sp dp n q0 : Nat} (hp : qPAIRS[q0]? = some (c, a)) : (qwl X M).set q0 (xa X c a, qent X (cpy M c0 a0 c a sp dp n) c a) = qwl X (cpy M c0 a0 c a sp dp n) :=
  wl_set hp (fun p _ hne => qent_congr (cpy_ne (pair_ne hne)).symm rfl)
/-! forms of a cell -/
theorem ent0 {X : Cx} {M : Mem} {c a : Nat} (h : (qcol c).1 = 0) : qent X M c a = .inr ((qcol c).2.1, (qcol c).2.2.mapIdx (fun j f => qfv X M c a j f)) := by unfold qent; rw [h]; rfl
theorem ent1 {X : Cx} {M : Mem} {c a : Nat} (h : (qcol c).1 = 1) : qent X M c a = .inl (xc X 0, (qcol c).2.1, .inl (M.1 c a)) := by unfold qent; rw [h]; rfl
theorem ent2 {X : Cx} {M : Mem} {c a : Nat} (h : (qcol c).1 = 2) : qent X M c a = .inl (xc X 1, (qcol c).2.1, .inl (M.1 c a)) := by unfold qent; rw [h]; rfl
theorem ent3 {X : Cx} {M : Mem} {c a : Nat} (h : (qcol c).1 = 3) : qent X M c a = .inl (xc X 2, (qcol c).2.1, .inr (.inl (M.2 c a))) := by unfold qent; rw [h]; rfl
theorem ent4 {X : Cx} {M : Mem} {c a : Nat} (h : (qcol c).1 = 4) : qent X M c a = .inl (xc X 3, (qcol c).2.1, .inr (.inr (.inr (.inr (fun i => some (xa X ((qcol c).2.2.getD 0 (0, 0, 0)).2.1 (((qcol c).2.2.getD 0 (0, 0, 0)).2.2 + i))))))) := by unfold qent; rw [h]; rfl
theorem fv_set {X : Cx} {M : Mem} {c a t : Nat} {x : Int32} {fs : List (Nat × Nat × Nat)} {f : Nat × Nat × Nat} (hf : fs[t]? = some f) (h01 : f.1 = 0 ∨ f.1 = 1) : (fs.mapIdx (fun j g => qfv X M c a j g)).set t (.int x) = fs.mapIdx (fun j g => qfv X (st M c a t x) c a j g) := by
  apply List.ext_getElem?
  intro i
  by_cases hti : t = i
  · subst hti
    have hl : t < (fs.mapIdx (fun j g => qfv X M c a j g)).length := by rw [List.length_mapIdx]; exact (List.getElem?_eq_some_iff.mp hf).1
    rw [List.getElem?_set_self hl, List.getElem?_mapIdx, hf]
    show some (Value.int x) = some (qfv X (st M c a t x) c a t f)
    unfold qfv
    rcases h01 with h | h <;> (rw [h, st_eq]; simp [upd])
  · rw [List.getElem?_set_ne hti, List.getElem?_mapIdx, List.getElem?_mapIdx]
    cases fs[i]? with
    | none => rfl
    | some g =>
      show some (qfv X M c a i g) = some (qfv X (st M c a t x) c a i g)
      congr 1
      unfold qfv
      have : (st M c a t x).1 c a i = M.1 c a i := by rw [st_eq]; simp [upd, Ne.symm hti]
      rw [this]
/-! columns' references lead to cells of the world -/
set_option maxRecDepth 100000 in
theorem qREF_ok : qPAIRS.all (fun p => (qcol p.1).2.2.all (fun f => match f.1 with | 2 => Nat.ble 2 f.2.1 && qPAIRS.contains (f.2.1, p.2) | 3 => Nat.ble 2 f.2.1 && qPAIRS.contains (f.2.1, f.2.2) | _ => true)) = true := by decide +kernel
set_option maxRecDepth 100000 in
theorem qREA_ok : qPAIRS.all (fun p => match (qcol p.1).1 with | 4 => (List.range (qcol p.1).2.1).all (fun i => Nat.ble 2 ((qcol p.1).2.2.getD 0 (0, 0, 0)).2.1 && qPAIRS.contains (((qcol p.1).2.2.getD 0 (0, 0, 0)).2.1, ((qcol p.1).2.2.getD 0 (0, 0, 0)).2.2 + i)) | _ => true) = true := by decide +kernel
set_option maxRecDepth 100000 in
theorem qGE_ok : qPAIRS.all (fun p => Nat.ble 2 p.1) = true := by decide +kernel
theorem pair_ge {c a : Nat} (h : (c, a) ∈ qPAIRS) : 2 ≤ c := Nat.le_of_ble_eq_true (all_of qGE_ok h)
theorem ok_pair {c a : Nat} (h : okV (vR c a)) (h2 : 2 ≤ c) : (c, a) ∈ qPAIRS := by
  rcases h with h | ⟨h, -⟩ | h
  · omega
  · omega
  · exact h
theorem tv_pair {X : Cx} {c a : Nat} (h : 2 ≤ c) : tv X (vR c a) = .ref (xa X c a) := by
  obtain ⟨k, rfl⟩ : ∃ k, c = k + 2 := ⟨c - 2, by omega⟩
  rfl
