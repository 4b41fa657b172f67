/-! from a walk of a method's body to its contract -/
theorem W.mono {p : Program} {l : Launch} {e : Env} {R : Room} {s : State} {m : MethodId} {args : Array Value} {below : List Frame} {meth : Method} {c : Code} {H : Heap} {locs : List Loc} {cells slots : Nat} {Z Z2 : State → Prop} {g : JFrame} (hz : ∀ t, Z t → Z2 t) (h : W p l e R s m args below meth c H locs cells slots Z g) : W p l e R s m args below meth c H locs cells slots Z2 g := by
  intro T hT X
  obtain ⟨t, a, b⟩ := h T hT X
  exact ⟨t, a, hz t b⟩
theorem sl_one {X : Cx} : ∀ {vs : List Vl}, (∀ v ∈ vs, c1 v = true) → lg_sl (vs.map (tv X)) = vs.map (fun v => Slot.val (tv X v))
  | [], _ => rfl
  | v :: vs, h => by
    have h1 := cat_tv (X := X) v (h v List.mem_cons_self)
    have h2 := sl_one (X := X) (vs := vs) (fun w hw => h w (List.mem_cons_of_mem _ hw))
    unfold lg_sl at h2 ⊢
    simp only [List.map_cons, List.flatMap_cons, h2, h1]
    rfl
theorem CC_of {X : Cx} {d m : Nat} {args : List Vl} {M M2 : Mem} {r : Option Vl} (hm : m < qNM) (hr : okR r) (hlen : args.length ≤ qml m) (hc1 : ∀ v ∈ args, c1 v = true)
    (h : V X d m 0 (args.map some ++ List.replicate (qml m - args.length) none) [] M (fun r' M' => r' = r ∧ M' = M2)) : CC X d m args M r M2 := by
  refine ⟨hr, fun hok => Met.ofW (cc := qbt m) (maxL := qml m) (ret := qrt m) (md_of hm).2.2.2.1 rfl ?_⟩
  intro p e s mm args0 below meth c s₁ B hml hv
  obtain ⟨rfl, hG, hP⟩ := hv
  have hts := atoms_spec (ws := Cond.code (qyn m) (qbt m) (qml m) (qrt m) :: qgw) B.pre
  have hown : s.vm.findClass (qcn (qow m)) = some mm.cls := findClass_of_methodNamed B.named
  have hsl := sl_one (X := X) hc1
  have hle : (lg_sl (args.map (tv X))).length ≤ qml m := by rw [hsl, List.length_map]; exact hlen
  have hl := lv_entry (args.map (tv X)) (n := qml m) hle
  rw [lg_entry_eq]
  refine W.mono ?_ (h p e s mm (args.map (tv X)).toArray below meth c s.heap [] _ ⟨⟨B.exec, B.bytes, B.returns, hml, hown, fun w hw => hts w (List.mem_cons_of_mem _ hw), B.notSynchronized⟩, hG, hP, va_S.rf, ⟨hl.1, hl.2.1, ?_⟩, ?_, ?_, fun v hv => by cases hv⟩)
  · rintro t ⟨o, h1, h2, ⟨r', M', h3, ⟨rfl, rfl⟩, h4, h5⟩, L, h6, h7⟩
    exact ⟨o, h1, h2, ⟨h3, h4, h5⟩, L, h6, h7⟩
  · intro i v hi
    rw [hsl]
    rcases Nat.lt_or_ge i args.length with hlt | hge
    · rw [List.getElem?_append_left (by rw [List.length_map]; exact hlt), List.getElem?_map] at hi
      cases ha : args[i]? with
      | none => rw [ha] at hi; cases hi
      | some w =>
        rw [ha] at hi
        have hw : w = v := by simpa using hi
        subst hw
        rw [List.getElem?_toArray, List.getElem?_append_left (by rw [List.length_map]; exact hlt), List.getElem?_map, ha]
        rfl
    · rw [List.getElem?_append_right (by rw [List.length_map]; exact hge)] at hi
      have := List.mem_of_getElem? hi
      rw [List.mem_replicate] at this
      cases this.2
  · rw [List.length_append, List.length_map, List.length_replicate]
    omega
  · intro v hv
    rcases List.mem_append.mp hv with h1 | h1
    · obtain ⟨w, hw, he⟩ := List.mem_map.mp h1
      cases he
      exact hok v hw
    · rw [List.mem_replicate] at h1
      cases h1.2
