/-! locals -/
def lvl (X : Cx) (L : Lc) : List (Nat × Value) := (List.range L.length).filterMap (fun i => (L.getD i none).map (fun v => (i, tv X v)))
theorem lvl_mem {X : Cx} {L : Lc} {i : Nat} {w : Value} : (i, w) ∈ lvl X L ↔ ∃ v, L[i]? = some (some v) ∧ w = tv X v := by
  unfold lvl
  rw [List.mem_filterMap]
  constructor
  · rintro ⟨k, hk, h⟩
    rw [Option.map_eq_some_iff] at h
    obtain ⟨v, hv, h⟩ := h
    cases h
    have hl := List.mem_range.mp hk
    refine ⟨v, ?_, rfl⟩
    rw [List.getD_eq_getElem?_getD, List.getElem?_eq_getElem hl] at hv
    rw [List.getElem?_eq_getElem hl]
    exact congrArg some hv
  · rintro ⟨v, hv, rfl⟩
    refine ⟨i, List.mem_range.mpr (List.getElem?_eq_some_iff.mp hv).1, ?_⟩
    rw [List.getD_eq_getElem?_getD, hv]
    rfl
theorem LV.has {X : Cx} {n : Nat} {L : Lc} {ls : Array Slot} (h : LV X n L ls) : lv_has ls n (lvl X L) := by
  refine ⟨h.1, h.2.1, fun q hq => ?_⟩
  obtain ⟨i, w⟩ := q
  obtain ⟨v, hv, rfl⟩ := lvl_mem.mp hq
  exact h.2.2 i v hv
theorem cat_tv {X : Cx} (v : Vl) (h : c1 v = true) : (tv X v).category = 1 := by
  rcases v with x | y | ⟨c, a⟩
  · rfl
  · cases h
  · rcases c with _ | _ | c <;> rfl
theorem qcat_tv {X : Cx} (v : Vl) : (tv X v).category = qcat v := by
  rcases v with x | y | ⟨c, a⟩
  · rfl
  · rfl
  · rcases c with _ | _ | c <;> rfl
theorem cat_two {X : Cx} {v : Vl} (h : ((tv X v).category == 2) = true) : c1 v = false := by
  cases hc : c1 v with
  | false => rfl
  | true => rw [cat_tv v hc] at h; cases h
theorem nl_of {L : Lc} {t i : Nat} {v : Vl} (h : nl L t = true) (hi : i + 1 = t) (hv : L[i]? = some (some v)) : c1 v = true := by
  subst hi
  unfold nl at h
  simp only at h
  rw [List.getD_eq_getElem?_getD, hv] at h
  rcases v with x | y | z
  · rfl
  · cases h
  · rfl
theorem LV.store {X : Cx} {n t : Nat} {L : Lc} {v : Vl} {ls' : Array Slot} (hn : nl L t = true) (h : lv_has ls' n ((t, tv X v) :: (lvl X L).filter (fun q => !(q.1 == t) && !(q.1 + 1 == t && q.2.category == 2)))) : LV X n (L.set t (some v)) ls' := by
  refine ⟨h.1, h.2.1, fun i w hw => ?_⟩
  by_cases hti : t = i
  · subst hti
    have hl : t < L.length := by
      have := (List.getElem?_eq_some_iff.mp hw).1
      rwa [List.length_set] at this
    rw [List.getElem?_set_self hl] at hw
    cases hw
    exact h.2.2 (t, tv X v) List.mem_cons_self
  · rw [List.getElem?_set_ne hti] at hw
    refine h.2.2 (i, tv X w) (List.mem_cons_of_mem _ (List.mem_filter.mpr ⟨lvl_mem.mpr ⟨w, hw, rfl⟩, ?_⟩))
    simp only [Bool.and_eq_true, Bool.not_eq_true', beq_eq_false_iff_ne, ne_eq]
    refine ⟨fun z => hti z.symm, ?_⟩
    by_cases h1 : i + 1 = t
    · have h2 := cat_tv (X := X) w (nl_of hn h1 hw)
      simp [h2]
    · simp [h1]
theorem LV.storeL {X : Cx} {n t : Nat} {L : Lc} {x : Int64} {ls' : Array Slot} (hn : nl L t = true) (h : lv_has ls' n ((t, Value.long x) :: (lvl X L).filter (fun q => !(q.1 == t) && (!(q.1 == t + 1) && !(q.1 + 1 == t && q.2.category == 2))))) : LV X n ((L.set t (some (vJ x))).set (t + 1) none) ls' := by
  refine ⟨h.1, h.2.1, fun i w hw => ?_⟩
  by_cases h1 : t + 1 = i
  · subst h1
    have hl := (List.getElem?_eq_some_iff.mp hw).1
    rw [List.length_set] at hl
    rw [List.getElem?_set_self hl] at hw
    cases hw
  · rw [List.getElem?_set_ne h1] at hw
    by_cases hti : t = i
    · subst hti
      have hl := (List.getElem?_eq_some_iff.mp hw).1
      rw [List.length_set] at hl
      rw [List.getElem?_set_self hl] at hw
      cases hw
      exact h.2.2 (t, tv X (vJ x)) List.mem_cons_self
    · rw [List.getElem?_set_ne hti] at hw
      refine h.2.2 (i, tv X w) (List.mem_cons_of_mem _ (List.mem_filter.mpr ⟨lvl_mem.mpr ⟨w, hw, rfl⟩, ?_⟩))
      simp only [Bool.and_eq_true, Bool.not_eq_true', beq_eq_false_iff_ne, ne_eq]
      refine ⟨fun z => hti z.symm, fun z => h1 z.symm, ?_⟩
      by_cases h3 : i + 1 = t
      · have h2 := cat_tv (X := X) w (nl_of hn h3 hw)
        simp [h2]
      · simp [h3]
theorem okL_set {L : Lc} {t : Nat} {v : Vl} (h : okL L) (hv : okV v) : okL (L.set t (some v)) := by
  intro w hw
  rcases List.mem_or_eq_of_mem_set hw with h1 | h1
  · exact h w h1
  · cases h1
    exact hv
theorem okL_setN {L : Lc} {t : Nat} (h : okL L) : okL (L.set t none) := by
  intro w hw
  rcases List.mem_or_eq_of_mem_set hw with h1 | h1
  · exact h w h1
  · cases h1
theorem okS_cons {v : Vl} {S : List Vl} (hv : okV v) (h : okS S) : okS (v :: S) := by
  intro w hw
  rcases List.mem_cons.mp hw with h1 | h1
  · subst h1
    exact hv
  · exact h w h1
theorem okS_tail {v : Vl} {S : List Vl} (h : okS (v :: S)) : okS S := fun w hw => h w (List.mem_cons_of_mem _ hw)
theorem okS_head {v : Vl} {S : List Vl} (h : okS (v :: S)) : okV v := h v List.mem_cons_self
theorem okL_at {L : Lc} {t : Nat} {v : Vl} (h : okL L) (hv : L.getD t none = some v) : okV v := by
  rw [List.getD_eq_getElem?_getD] at hv
  cases hq : L[t]? with
  | none => rw [hq] at hv; cases hv
  | some o =>
    rw [hq] at hv
    have : o = some v := hv
    subst this
    exact h v (List.mem_of_getElem? hq)
theorem LV_at {X : Cx} {n t : Nat} {L : Lc} {ls : Array Slot} {v : Vl} (h : LV X n L ls) (hv : L.getD t none = some v) : ls[t]? = some (.val (tv X v)) := by
  rw [List.getD_eq_getElem?_getD] at hv
  cases hq : L[t]? with
  | none => rw [hq] at hv; cases hv
  | some o =>
    rw [hq] at hv
    have : o = some v := hv
    subst this
    exact h.2.2 t v hq
theorem lvl_at {X : Cx} {L : Lc} {t : Nat} {v : Vl} (hv : L.getD t none = some v) : ∃ k : Nat, (lvl X L)[k]? = some (t, tv X v) := by
  apply List.getElem?_of_mem
  rw [lvl_mem]
  rw [List.getD_eq_getElem?_getD] at hv
  cases hq : L[t]? with
  | none => rw [hq] at hv; cases hv
  | some o =>
    rw [hq] at hv
    have : o = some v := hv
    subst this
    exact ⟨v, rfl, rfl⟩
theorem V.mask {X : Cx} {d m pc : Nat} {L L' : Lc} {S : List Vl} {M : Mem} {Q : Option Vl → Mem → Prop} (hl : L'.length = L.length) (hs : ∀ (i : Nat) (v : Vl), L'[i]? = some (some v) → L[i]? = some (some v)) (h : V X d m pc L' S M Q) : V X d m pc L S M Q := by
  intro p e s mm args below meth c H locs ls C
  obtain ⟨hm, hG, hP, hS, hL, hll, hoL, hoS⟩ := C
  refine h p e s mm args below meth c H locs ls ⟨hm, hG, hP, hS, ⟨hL.1, hL.2.1, fun i v hv => hL.2.2 i v (hs i v hv)⟩, hl.trans hll, ?_, hoS⟩
  intro v hv
  obtain ⟨i, hi⟩ := List.getElem?_of_mem hv
  exact hoL v (List.mem_of_getElem? (hs i v hi))
theorem qmask_len : ∀ (b : List Bool) (L : Lc), (qmask b L).length = L.length
  | [], L => by cases L <;> rfl
  | true :: b, [] => rfl
  | false :: b, [] => rfl
  | true :: b, o :: L => by
    show (qmask b L).length + 1 = L.length + 1
    rw [qmask_len b L]
  | false :: b, o :: L => by
    show (qmask b L).length + 1 = L.length + 1
    rw [qmask_len b L]
theorem qmask_sub : ∀ (b : List Bool) (L : Lc) (i : Nat) (v : Vl), (qmask b L)[i]? = some (some v) → L[i]? = some (some v)
  | [], L, i, v, h => by cases L <;> exact h
  | true :: b, [], i, v, h => h
  | false :: b, [], i, v, h => h
  | true :: b, o :: L, 0, v, h => h
  | true :: b, o :: L, i + 1, v, h => by
    have h1 : (qmask b L)[i]? = some (some v) := by simpa [qmask] using h
    simpa using qmask_sub b L i v h1
  | false :: b, o :: L, 0, v, h => by simp [qmask] at h
  | false :: b, o :: L, i + 1, v, h => by
    have h1 : (qmask b L)[i]? = some (some v) := by simpa [qmask] using h
    simpa using qmask_sub b L i v h1
/-! the shapes of a stack -/
theorem tI_of {S : List Vl} {f : Int32 → List Vl → Prop} (h : tI S f) : ∃ x S', S = vI x :: S' ∧ f x S' := by
  unfold tI at h
  split at h
  · exact ⟨_, _, rfl, h⟩
  · exact h.elim
theorem tJ_of {S : List Vl} {f : Int64 → List Vl → Prop} (h : tJ S f) : ∃ x S', S = vJ x :: S' ∧ f x S' := by
  unfold tJ at h
  split at h
  · exact ⟨_, _, rfl, h⟩
  · exact h.elim
theorem tR_of {S : List Vl} {f : Nat → Nat → List Vl → Prop} (h : tR S f) : ∃ c a S', S = vR c a :: S' ∧ f c a S' := by
  unfold tR at h
  split at h
  · exact ⟨_, _, _, rfl, h⟩
  · exact h.elim
theorem tII_of {S : List Vl} {f : Int32 → Int32 → List Vl → Prop} (h : tII S f) : ∃ x y S', S = vI y :: vI x :: S' ∧ f x y S' := by
  unfold tII at h
  split at h
  · exact ⟨_, _, _, rfl, h⟩
  · exact h.elim
theorem tJJ_of {S : List Vl} {f : Int64 → Int64 → List Vl → Prop} (h : tJJ S f) : ∃ x y S', S = vJ y :: vJ x :: S' ∧ f x y S' := by
  unfold tJJ at h
  split at h
  · exact ⟨_, _, _, rfl, h⟩
  · exact h.elim
theorem tIR_of {S : List Vl} {f : Nat → Nat → Int32 → List Vl → Prop} (h : tIR S f) : ∃ c a i S', S = vI i :: vR c a :: S' ∧ f c a i S' := by
  unfold tIR at h
  split at h
  · exact ⟨_, _, _, _, rfl, h⟩
  · exact h.elim
theorem tXR_of {S : List Vl} {f : Nat → Nat → Int32 → List Vl → Prop} (h : tXR S f) : ∃ c a i S', S = vI i :: vR c a :: S' ∧ f c a i S' := by
  unfold tXR at h
  split at h
  · exact ⟨_, _, _, _, rfl, h⟩
  · exact h.elim
theorem tIIR_of {S : List Vl} {f : Nat → Nat → Int32 → Int32 → List Vl → Prop} (h : tIIR S f) : ∃ c a i x S', S = vI x :: vI i :: vR c a :: S' ∧ f c a i x S' := by
  unfold tIIR at h
  split at h
  · exact ⟨_, _, _, _, _, rfl, h⟩
  · exact h.elim
theorem tJIR_of {S : List Vl} {f : Nat → Nat → Int32 → Int64 → List Vl → Prop} (h : tJIR S f) : ∃ c a i x S', S = vJ x :: vI i :: vR c a :: S' ∧ f c a i x S' := by
  unfold tJIR at h
  split at h
  · exact ⟨_, _, _, _, _, rfl, h⟩
  · exact h.elim
theorem tCP_of {S : List Vl} {f : Nat → Nat → Nat → Nat → Int32 → Int32 → Int32 → List Vl → Prop} (h : tCP S f) : ∃ c0 a0 c a sp dp n S', S = vI n :: vI dp :: vR c a :: vI sp :: vR c0 a0 :: S' ∧ f c0 a0 c a sp dp n S' := by
  unfold tCP at h
  split at h
  · exact ⟨_, _, _, _, _, _, _, _, rfl, h⟩
  · exact h.elim
theorem gI_of {o : Option Vl} {f : Int32 → Prop} (h : gI o f) : ∃ v, o = some (vI v) ∧ f v := by
  unfold gI at h
  split at h
  · exact ⟨_, rfl, h⟩
  · exact h.elim
theorem gR_of {o : Option Vl} {f : Nat → Nat → Prop} (h : gR o f) : ∃ c a, o = some (vR c a) ∧ f c a := by
  unfold gR at h
  split at h
  · exact ⟨_, _, rfl, h⟩
  · exact h.elim
theorem gJ_of {o : Option Vl} {f : Int64 → Prop} (h : gJ o f) : ∃ v, o = some (vJ v) ∧ f v := by
  unfold gJ at h
  split at h
  · exact ⟨_, rfl, h⟩
  · exact h.elim
theorem bB_of {b : Bool} {p : Prop} (h : bB b p) : b = true ∧ p := by
  unfold bB at h
  split at h
  · exact ⟨rfl, h⟩
  · exact h.elim
