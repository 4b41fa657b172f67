/-! one instruction: what wp1 asks is enough -/
theorem ok_ref {X : Cx} {c a : Nat} {f : Nat × Nat × Nat} (hp : (c, a) ∈ qPAIRS) (hf : f ∈ (qcol c).2.2) : (f.1 = 2 → 2 ≤ f.2.1 ∧ (f.2.1, a) ∈ qPAIRS) ∧ (f.1 = 3 → 2 ≤ f.2.1 ∧ (f.2.1, f.2.2) ∈ qPAIRS) := by
  have h := all_of (all_of qREF_ok hp) hf
  refine ⟨fun z => ?_, fun z => ?_⟩
  · rw [z] at h
    simp only [Bool.and_eq_true, List.contains_iff_mem] at h
    exact ⟨Nat.le_of_ble_eq_true h.1, h.2⟩
  · rw [z] at h
    simp only [Bool.and_eq_true, List.contains_iff_mem] at h
    exact ⟨Nat.le_of_ble_eq_true h.1, h.2⟩
theorem Rp_get {X : Cx} {M : Mem} {H : Heap} {c a : Nat} (hP : Rp X M H) (hp : (c, a) ∈ qPAIRS) : ∃ q0 : Nat, (qwl X M)[q0]? = some (xa X c a, qent X M c a) ∧ qPAIRS[q0]? = some (c, a) := wl_get hp
theorem cls_lt {X : Cx} {M : Mem} {H : Heap} {c a : Nat} (hP : Rp X M H) (hp : (c, a) ∈ qPAIRS) (h0 : (qcol c).1 = 0) : (qcol c).2.1 < 12 := by
  obtain ⟨q0, g1, g2⟩ := wl_get (X := X) (M := M) hp
  rw [ent0 h0] at g1
  obtain ⟨r0, f1, -⟩ := hP q0 _ g1
  have := (List.getElem?_eq_some_iff.mp f1).1
  simpa [qcl] using this
/-- getfield, whatever the field -/
theorem s_get {X : Cx} {d m pc j u t c a : Nat} {L : Lc} {S : List Vl} {M : Mem} {Q : Option Vl → Mem → Prop} {f : Nat × Nat × Nat} {v : Vl} (hd : decode (qbt m) pc = .ok (.getfield j, 3)) (hF : hasF (qow m) j u t = true) (h2 : 2 ≤ c) (h0 : (qcol c).1 = 0) (hu : (qcol c).2.1 = u) (hf : (qcol c).2.2[t]? = some f)
    (hv : qfv X M c a t f = tv X v) (hov : (c, a) ∈ qPAIRS → okV v) (h : V X d m (pc + 3) L (v :: S) M Q) : V X d m pc L (vR c a :: S) M Q := by
  refine V.step (S' := v :: S) (fun _ ho => okS_cons (hov (ok_pair (okS_head ho) h2)) (okS_tail ho)) ?_ h
  intro p e s mm args below meth cc H locs ls Z hm hG hP hS hL hoL hoS k
  obtain ⟨hx, hb, hr, hml, hown, hts, hlk⟩ := hm
  obtain ⟨f1, f2, f3, f4⟩ := hasF_ok hF
  have hp := ok_pair (okS_head hoS) h2
  obtain ⟨q0, g1, g2⟩ := wl_get (X := X) (M := M) hp
  rw [ent0 h0, hu] at g1
  rw [List.map_cons, tv_pair h2]
  refine va_get hx hb hts (qLW_in f1) hown hG.2.1 hP q0 g1 (qcl_at f1) t f2 (hts _ f4) (fun x hx => by rw [← f3]; exact hx) (v := tv X v) ?_ hd k
  rw [List.getElem?_mapIdx, hf]
  exact congrArg some hv
theorem s_put {X : Cx} {d m pc j u t c a : Nat} {L : Lc} {S : List Vl} {M : Mem} {Q : Option Vl → Mem → Prop} {f : Nat × Nat × Nat} {x : Int32} (hd : decode (qbt m) pc = .ok (.putfield j, 3)) (hF : hasF (qow m) j u t = true) (hfin : (qT u t).2.2.2 = false) (h2 : 2 ≤ c) (h0 : (qcol c).1 = 0) (hu : (qcol c).2.1 = u) (hf : (qcol c).2.2[t]? = some f)
    (h01 : f.1 = 0 ∨ f.1 = 1) (hn : ∃ ty, parseFieldDescriptor (qT u t).2.2.1 = some ty ∧ narrow ty (.int x) = .int x ∧ fits ty (.int x) = true) (h : V X d m (pc + 3) L S (st M c a t x) Q) : V X d m pc L (vI x :: vR c a :: S) M Q := by
  refine V.mem (S' := S) (fun ho => okS_tail (okS_tail ho)) ?_ h
  intro p e s mm args below meth cc H locs ls Z hm hG hP hS hL hoS k
  obtain ⟨hx, hb, hr, hml, hown, hts, hlk⟩ := hm
  obtain ⟨f1, f2, f3, f4⟩ := hasF_ok hF
  obtain ⟨ty, n1, n2, n3⟩ := hn
  have hp := ok_pair (okS_head (okS_tail hoS)) h2
  obtain ⟨q0, g1, g2⟩ := wl_get (X := X) (M := M) hp
  rw [ent0 h0, hu] at g1
  rw [List.map_cons, List.map_cons, tv_pair h2]
  refine va_put hx hb hts (qLW_in f1) (qty u) (qty_in f1) (qnm_in f1) hown hG.2.1 hP (wl_D hG.1) hS q0 g1 (qcl_at f1) t f2 (hts _ f4) (fun x hx => by rw [← f3]; exact hx) hfin (ty := ty) (v := .int x) n1 n2 n3 (by rw [List.length_mapIdx]; exact (List.getElem?_eq_some_iff.mp hf).1) hd (fun H1 locs1 hP1 hD1 hS1 => k H1 locs1 ?_ hS1)
  rw [fv_set hf h01] at hP1
  have e1 : qent X (st M c a t x) c a = .inr (u, (qcol c).2.2.mapIdx (fun j g => qfv X (st M c a t x) c a j g)) := by rw [ent0 h0, hu]
  rw [← e1, wl_st g2] at hP1
  exact hP1
theorem narB {x : Int32} (h : isB x) : narrow .boolean (.int x) = .int x ∧ fits .boolean (.int x) = true ∧ vp_nar .boolean x = x := by
  rcases h with rfl | rfl
  · exact ⟨by decide, by decide, by decide⟩
  · exact ⟨by decide, by decide, by decide⟩

set_option maxRecDepth 100000 in
theorem qTYP_ok : qPAIRS.all (fun p => match (qcol p.1).1 with | 0 => (List.range (qcol p.1).2.2.length).all (fun t => match (qcol p.1).2.2[t]? with | some (0, _, _) => decide (parseFieldDescriptor (qT (qcol p.1).2.1 t).2.2.1 = some .int) | some (1, _, _) => decide (parseFieldDescriptor (qT (qcol p.1).2.1 t).2.2.1 = some .boolean) | _ => true) | _ => true) = true := by decide +kernel
theorem typ_at {c a t : Nat} {f : Nat × Nat × Nat} (hp : (c, a) ∈ qPAIRS) (h0 : (qcol c).1 = 0) (hf : (qcol c).2.2[t]? = some f) : (f.1 = 0 → parseFieldDescriptor (qT (qcol c).2.1 t).2.2.1 = some .int) ∧ (f.1 = 1 → parseFieldDescriptor (qT (qcol c).2.1 t).2.2.1 = some .boolean) := by
  have h := all_of qTYP_ok hp
  simp only [h0] at h
  have h1 := all_of h (List.mem_range.mpr (List.getElem?_eq_some_iff.mp hf).1)
  simp only [hf] at h1
  obtain ⟨k, x, y⟩ := f
  refine ⟨fun z => ?_, fun z => ?_⟩
  · have : k = 0 := z
    subst this
    simpa using h1
  · have : k = 1 := z
    subst this
    simpa using h1
theorem V.okp {X : Cx} {d m pc : Nat} {L : Lc} {S : List Vl} {M : Mem} {Q : Option Vl → Mem → Prop} (h : okS S → V X d m pc L S M Q) : V X d m pc L S M Q := by
  intro p e s mm args below meth c H locs ls C
  exact h C.2.2.2.2.2.2.2 p e s mm args below meth c H locs ls C
theorem inb_vp {i : Int32} {n : Nat} (h : inb i n) : vp_in i n := h
