/-! all instructions -/
theorem s_load {X : Cx} {d m pc pc' t : Nat} {L : Lc} {S : List Vl} {M : Mem} {Q : Option Vl → Mem → Prop} {v : Vl} (hv : L.getD t none = some v)
    (row : ∀ (p : Program) (e : Env) (s : State) (mm : MethodId) (args : Array Value) (below : List Frame) (meth : Method) (c : Code) (H : Heap) (locs : List Loc) (ls : Array Slot) (Z : State → Prop), MC m p s mm args meth c → ls[t]? = some (.val (tv X v)) → W p (xl X) e (rmm d) s mm args below meth c H locs 0 0 Z (F0 mm pc' ls (tv X v :: S.map (tv X))) → W p (xl X) e (rmm d) s mm args below meth c H locs 0 0 Z (F0 mm pc ls (S.map (tv X))))
    (h : V X d m pc' L (v :: S) M Q) : V X d m pc L S M Q :=
  V.step (S' := v :: S) (fun hL hS => okS_cons (okL_at hL hv) hS) (fun p e s mm args below meth c H locs ls Z hm hG hP hS hL hoL hoS k => row p e s mm args below meth c H locs ls Z hm (LV_at hL hv) k) h
theorem s_aload {X : Cx} {d m pc t c a : Nat} {L : Lc} {S : List Vl} {M : Mem} {Q : Option Vl → Mem → Prop} (hv : L.getD t none = some (vR c a)) (len : Nat) (hd : (∃ z : Fin 4, (z : Nat) = t ∧ len = 1 ∧ decode (qbt m) pc = .ok (.aload_n z, 1)) ∨ (len = 2 ∧ decode (qbt m) pc = .ok (.aload t, 2)))
    (h : V X d m (pc + len) L (vR c a :: S) M Q) : V X d m pc L S M Q := by
  rcases c with _ | _ | c
  · rcases hd with ⟨z, hz, rfl, hd⟩ | ⟨rfl, hd⟩
    · exact s_load hv (fun p e s mm args below meth c H locs ls Z hm hl k => lv_aload_nN hm.1 hm.2.1 hd hz hl k) h
    · exact s_load hv (fun p e s mm args below meth c H locs ls Z hm hl k => lv_aloadN hm.1 hm.2.1 hd hl k) h
  · rcases hd with ⟨z, hz, rfl, hd⟩ | ⟨rfl, hd⟩
    · exact s_load hv (fun p e s mm args below meth c H locs ls Z hm hl k => lv_aload_n hm.1 hm.2.1 hd hz hl k) h
    · exact s_load hv (fun p e s mm args below meth c H locs ls Z hm hl k => lv_aload hm.1 hm.2.1 hd hl k) h
  · rcases hd with ⟨z, hz, rfl, hd⟩ | ⟨rfl, hd⟩
    · exact s_load hv (fun p e s mm args below meth c H locs ls Z hm hl k => lv_aload_n hm.1 hm.2.1 hd hz hl k) h
    · exact s_load hv (fun p e s mm args below meth c H locs ls Z hm hl k => lv_aload hm.1 hm.2.1 hd hl k) h
theorem s_astore {X : Cx} {d m pc t c a : Nat} {L : Lc} {S : List Vl} {M : Mem} {Q : Option Vl → Mem → Prop} (hn : nl L t = true) (hlt : t < qml m) (len : Nat) (hd : (∃ z : Fin 4, (z : Nat) = t ∧ len = 1 ∧ decode (qbt m) pc = .ok (.astore_n z, 1)) ∨ (len = 2 ∧ decode (qbt m) pc = .ok (.astore t, 2)))
    (h : V X d m (pc + len) (L.set t (some (vR c a))) S M Q) : V X d m pc L (vR c a :: S) M Q := by
  have ho : okL L → okS (vR c a :: S) → okL (L.set t (some (vR c a))) ∧ okS S := fun h1 h2 => ⟨okL_set h1 (okS_head h2), okS_tail h2⟩
  rcases c with _ | _ | c
  · rcases hd with ⟨z, hz, rfl, hd⟩ | ⟨rfl, hd⟩
    · exact V.loc List.length_set ho (fun p e s mm args below meth c H locs ls Z hm hL k => lv_astore_nN hm.1 hm.2.1 hd hz hL.has hlt rfl (fun ls' h' => k ls' (LV.store hn h'))) h
    · exact V.loc List.length_set ho (fun p e s mm args below meth c H locs ls Z hm hL k => lv_astoreN hm.1 hm.2.1 hd hL.has hlt rfl (fun ls' h' => k ls' (LV.store hn h'))) h
  · rcases hd with ⟨z, hz, rfl, hd⟩ | ⟨rfl, hd⟩
    · exact V.loc List.length_set ho (fun p e s mm args below meth c H locs ls Z hm hL k => lv_astore_n hm.1 hm.2.1 hd hz hL.has hlt rfl (fun ls' h' => k ls' (LV.store hn h'))) h
    · exact V.loc List.length_set ho (fun p e s mm args below meth c H locs ls Z hm hL k => lv_astore hm.1 hm.2.1 hd hL.has hlt rfl (fun ls' h' => k ls' (LV.store hn h'))) h
  · rcases hd with ⟨z, hz, rfl, hd⟩ | ⟨rfl, hd⟩
    · exact V.loc List.length_set ho (fun p e s mm args below meth c H locs ls Z hm hL k => lv_astore_n hm.1 hm.2.1 hd hz hL.has hlt rfl (fun ls' h' => k ls' (LV.store hn h'))) h
    · exact V.loc List.length_set ho (fun p e s mm args below meth c H locs ls Z hm hL k => lv_astore hm.1 hm.2.1 hd hL.has hlt rfl (fun ls' h' => k ls' (LV.store hn h'))) h
theorem s_istore {X : Cx} {d m pc t : Nat} {L : Lc} {S : List Vl} {M : Mem} {Q : Option Vl → Mem → Prop} {x : Int32} (hn : nl L t = true) (hlt : t < qml m) (len : Nat) (hd : (∃ z : Fin 4, (z : Nat) = t ∧ len = 1 ∧ decode (qbt m) pc = .ok (.istore_n z, 1)) ∨ (len = 2 ∧ decode (qbt m) pc = .ok (.istore t, 2)))
    (h : V X d m (pc + len) (L.set t (some (vI x))) S M Q) : V X d m pc L (vI x :: S) M Q := by
  have ho : okL L → okS (vI x :: S) → okL (L.set t (some (vI x))) ∧ okS S := fun h1 h2 => ⟨okL_set h1 (okS_head h2), okS_tail h2⟩
  rcases hd with ⟨z, hz, rfl, hd⟩ | ⟨rfl, hd⟩
  · exact V.loc List.length_set ho (fun p e s mm args below meth c H locs ls Z hm hL k => lv_istore_n hm.1 hm.2.1 hd hz hL.has hlt rfl (fun ls' h' => k ls' (LV.store hn h'))) h
  · exact V.loc List.length_set ho (fun p e s mm args below meth c H locs ls Z hm hL k => lv_istore hm.1 hm.2.1 hd hL.has hlt rfl (fun ls' h' => k ls' (LV.store hn h'))) h
theorem s_lstore {X : Cx} {d m pc t : Nat} {L : Lc} {S : List Vl} {M : Mem} {Q : Option Vl → Mem → Prop} {x : Int64} (hn : nl L t = true) (hlt : t + 1 < qml m) (len : Nat) (hd : (∃ z : Fin 4, (z : Nat) = t ∧ len = 1 ∧ decode (qbt m) pc = .ok (.lstore_n z, 1)) ∨ (len = 2 ∧ decode (qbt m) pc = .ok (.lstore t, 2)))
    (h : V X d m (pc + len) ((L.set t (some (vJ x))).set (t + 1) none) S M Q) : V X d m pc L (vJ x :: S) M Q := by
  have hln : ((L.set t (some (vJ x))).set (t + 1) none).length = L.length := by rw [List.length_set, List.length_set]
  have ho : okL L → okS (vJ x :: S) → okL ((L.set t (some (vJ x))).set (t + 1) none) ∧ okS S := fun h1 h2 => ⟨okL_setN (okL_set h1 (okS_head h2)), okS_tail h2⟩
  rcases hd with ⟨z, hz, rfl, hd⟩ | ⟨rfl, hd⟩
  · exact V.loc hln ho (fun p e s mm args below meth c H locs ls Z hm hL k => lv_lstore_n hm.1 hm.2.1 hd hz hL.has hlt rfl (fun ls' h' => k ls' (LV.storeL hn h'))) h
  · exact V.loc hln ho (fun p e s mm args below meth c H locs ls Z hm hL k => lv_lstore hm.1 hm.2.1 hd hL.has hlt rfl (fun ls' h' => k ls' (LV.storeL hn h'))) h
theorem s_iinc {X : Cx} {d m pc t : Nat} {L : Lc} {S : List Vl} {M : Mem} {Q : Option Vl → Mem → Prop} {v : Int32} {z : Int} (hv : L.getD t none = some (vI v)) (hn : nl L t = true) (hlt : t < qml m) (hd : decode (qbt m) pc = .ok (.iinc t z, 3))
    (h : V X d m (pc + 3) (L.set t (some (vI (v + Int32.ofInt z)))) S M Q) : V X d m pc L S M Q := by
  have ho : okL L → okS S → okL (L.set t (some (vI (v + Int32.ofInt z)))) ∧ okS S := fun h1 h2 => ⟨okL_set h1 trivial, h2⟩
  refine V.loc List.length_set ho (fun p e s mm args below meth c H locs ls Z hm hL k => ?_) h
  obtain ⟨i, hi⟩ := lvl_at (X := X) hv
  exact lv_iinc hm.1 hm.2.1 hd hL.has hi rfl hlt rfl (fun ls' h' => k ls' (LV.store hn h'))
theorem s_iald {X : Cx} {d m pc c a : Nat} {L : Lc} {S : List Vl} {M : Mem} {Q : Option Vl → Mem → Prop} {i : Int32} (h1 : (qcol c).1 = 1) (hi : inb i (qcol c).2.1) (hd : decode (qbt m) pc = .ok (.iaload, 1)) (h2 : 2 ≤ c)
    (h : V X d m (pc + 1) L (vI (M.1 c a (ix i)) :: S) M Q) : V X d m pc L (vI i :: vR c a :: S) M Q := by
  refine V.step (S' := vI (M.1 c a (ix i)) :: S) (fun _ ho => okS_cons trivial (okS_tail (okS_tail ho))) ?_ h
  intro p e s mm args below meth cc H locs ls Z hm hG hP hS hL hoL hoS k
  obtain ⟨q0, g1, g2⟩ := wl_get (X := X) (M := M) (ok_pair (okS_head (okS_tail hoS)) h2)
  rw [ent1 h1] at g1
  rw [List.map_cons, List.map_cons, tv_pair h2]
  exact va_iald hm.1 hm.2.1 hG.2.1 hP q0 0 g1 rfl hi hd k
theorem s_zald {X : Cx} {d m pc c a : Nat} {L : Lc} {S : List Vl} {M : Mem} {Q : Option Vl → Mem → Prop} {i : Int32} (h1 : (qcol c).1 = 2) (hi : inb i (qcol c).2.1) (hd : decode (qbt m) pc = .ok (.baload, 1)) (h2 : 2 ≤ c)
    (h : V X d m (pc + 1) L (vI (M.1 c a (ix i)) :: S) M Q) : V X d m pc L (vI i :: vR c a :: S) M Q := by
  refine V.step (S' := vI (M.1 c a (ix i)) :: S) (fun _ ho => okS_cons trivial (okS_tail (okS_tail ho))) ?_ h
  intro p e s mm args below meth cc H locs ls Z hm hG hP hS hL hoL hoS k
  obtain ⟨q0, g1, g2⟩ := wl_get (X := X) (M := M) (ok_pair (okS_head (okS_tail hoS)) h2)
  rw [ent2 h1] at g1
  rw [List.map_cons, List.map_cons, tv_pair h2]
  exact va_zald hm.1 hm.2.1 hG.2.1 hP q0 1 g1 rfl hi hd k
theorem s_lald {X : Cx} {d m pc c a : Nat} {L : Lc} {S : List Vl} {M : Mem} {Q : Option Vl → Mem → Prop} {i : Int32} (h1 : (qcol c).1 = 3) (hi : inb i (qcol c).2.1) (hd : decode (qbt m) pc = .ok (.laload, 1)) (h2 : 2 ≤ c)
    (h : V X d m (pc + 1) L (vJ (M.2 c a (ix i)) :: S) M Q) : V X d m pc L (vI i :: vR c a :: S) M Q := by
  refine V.step (S' := vJ (M.2 c a (ix i)) :: S) (fun _ ho => okS_cons trivial (okS_tail (okS_tail ho))) ?_ h
  intro p e s mm args below meth cc H locs ls Z hm hG hP hS hL hoL hoS k
  obtain ⟨q0, g1, g2⟩ := wl_get (X := X) (M := M) (ok_pair (okS_head (okS_tail hoS)) h2)
  rw [ent3 h1] at g1
  rw [List.map_cons, List.map_cons, tv_pair h2]
  exact va_lald hm.1 hm.2.1 hG.2.1 hP q0 2 g1 rfl hi hd k
theorem s_iast {X : Cx} {d m pc c a : Nat} {L : Lc} {S : List Vl} {M : Mem} {Q : Option Vl → Mem → Prop} {i x : Int32} (h1 : (qcol c).1 = 1) (hi : inb i (qcol c).2.1) (hd : decode (qbt m) pc = .ok (.iastore, 1)) (h2 : 2 ≤ c)
    (h : V X d m (pc + 1) L S (st M c a (ix i) x) Q) : V X d m pc L (vI x :: vI i :: vR c a :: S) M Q := by
  refine V.mem (S' := S) (fun ho => okS_tail (okS_tail (okS_tail ho))) ?_ h
  intro p e s mm args below meth cc H locs ls Z hm hG hP hS hL hoS k
  obtain ⟨q0, g1, g2⟩ := wl_get (X := X) (M := M) (ok_pair (okS_head (okS_tail (okS_tail hoS))) h2)
  rw [ent1 h1] at g1
  rw [List.map_cons, List.map_cons, List.map_cons, tv_pair h2]
  refine va_iast hm.1 hm.2.1 hG.2.1 hP (wl_D hG.1) hS q0 0 g1 rfl hi hd (fun H1 locs1 hP1 hD1 hS1 => k H1 locs1 ?_ hS1)
  have e1 : qent X (st M c a (ix i) x) c a = .inl (xc X 0, (qcol c).2.1, .inl (upd (M.1 c a) i.toNatClampNeg x)) := by rw [ent1 h1, st_eq]; rfl
  rw [← e1, wl_st g2] at hP1
  exact hP1
theorem s_zast {X : Cx} {d m pc c a : Nat} {L : Lc} {S : List Vl} {M : Mem} {Q : Option Vl → Mem → Prop} {i x : Int32} (h1 : (qcol c).1 = 2) (hi : inb i (qcol c).2.1) (hx : isB x) (hd : decode (qbt m) pc = .ok (.bastore, 1)) (h2 : 2 ≤ c)
    (h : V X d m (pc + 1) L S (st M c a (ix i) x) Q) : V X d m pc L (vI x :: vI i :: vR c a :: S) M Q := by
  refine V.mem (S' := S) (fun ho => okS_tail (okS_tail (okS_tail ho))) ?_ h
  intro p e s mm args below meth cc H locs ls Z hm hG hP hS hL hoS k
  obtain ⟨q0, g1, g2⟩ := wl_get (X := X) (M := M) (ok_pair (okS_head (okS_tail (okS_tail hoS))) h2)
  rw [ent2 h1] at g1
  rw [List.map_cons, List.map_cons, List.map_cons, tv_pair h2]
  refine va_zast hm.1 hm.2.1 hG.2.1 hP (wl_D hG.1) hS q0 1 g1 rfl hi hd (fun H1 locs1 hP1 hD1 hS1 => k H1 locs1 ?_ hS1)
  have e1 : qent X (st M c a (ix i) x) c a = .inl (xc X 1, (qcol c).2.1, .inl (upd (M.1 c a) i.toNatClampNeg (vp_nar .boolean x))) := by rw [ent2 h1, st_eq, (narB hx).2.2]; rfl
  rw [← e1, wl_st g2] at hP1
  exact hP1
theorem s_last {X : Cx} {d m pc c a : Nat} {L : Lc} {S : List Vl} {M : Mem} {Q : Option Vl → Mem → Prop} {i : Int32} {x : Int64} (h1 : (qcol c).1 = 3) (hi : inb i (qcol c).2.1) (hd : decode (qbt m) pc = .ok (.lastore, 1)) (h2 : 2 ≤ c)
    (h : V X d m (pc + 1) L S (stL M c a (ix i) x) Q) : V X d m pc L (vJ x :: vI i :: vR c a :: S) M Q := by
  refine V.mem (S' := S) (fun ho => okS_tail (okS_tail (okS_tail ho))) ?_ h
  intro p e s mm args below meth cc H locs ls Z hm hG hP hS hL hoS k
  obtain ⟨q0, g1, g2⟩ := wl_get (X := X) (M := M) (ok_pair (okS_head (okS_tail (okS_tail hoS))) h2)
  rw [ent3 h1] at g1
  rw [List.map_cons, List.map_cons, List.map_cons, tv_pair h2]
  refine va_last hm.1 hm.2.1 hG.2.1 hP (wl_D hG.1) hS q0 2 g1 rfl hi hd (fun H1 locs1 hP1 hD1 hS1 => k H1 locs1 ?_ hS1)
  have e1 : qent X (stL M c a (ix i) x) c a = .inl (xc X 2, (qcol c).2.1, .inr (.inl (vp_updL (M.2 c a) i.toNatClampNeg x))) := by rw [ent3 h1, stL_eq]; rfl
  rw [← e1, wl_stL g2] at hP1
  exact hP1
theorem s_aald {X : Cx} {d m pc c a z c' a' : Nat} {fs : List (Nat × Nat × Nat)} {L : Lc} {S : List Vl} {M : Mem} {Q : Option Vl → Mem → Prop} {i : Int32} (h1 : (qcol c).1 = 4) (hi : inb i (qcol c).2.1) (hf : (qcol c).2.2 = (z, c', a') :: fs) (hd : decode (qbt m) pc = .ok (.aaload, 1)) (h2 : 2 ≤ c)
    (h : V X d m (pc + 1) L (vR c' (a' + ix i) :: S) M Q) : V X d m pc L (vI i :: vR c a :: S) M Q := by
  have key : (c, a) ∈ qPAIRS → 2 ≤ c' ∧ (c', a' + ix i) ∈ qPAIRS := by
    intro hp
    have h3 := all_of qREA_ok hp
    simp only [h1] at h3
    have h4 := all_of h3 (List.mem_range.mpr (Nat.not_le.mp fun q => hi (Or.inr q)))
    rw [hf] at h4
    simp only [Bool.and_eq_true, List.contains_iff_mem] at h4
    exact ⟨Nat.le_of_ble_eq_true h4.1, h4.2⟩
  refine V.step (S' := vR c' (a' + ix i) :: S) (fun _ ho => okS_cons (Or.inr (Or.inr (key (ok_pair (okS_head (okS_tail ho)) h2)).2)) (okS_tail (okS_tail ho))) ?_ h
  intro p e s mm args below meth cc H locs ls Z hm hG hP hS hL hoL hoS k
  have hp := ok_pair (okS_head (okS_tail hoS)) h2
  obtain ⟨q0, g1, g2⟩ := wl_get (X := X) (M := M) hp
  rw [ent4 h1] at g1
  rw [List.map_cons, List.map_cons, tv_pair h2]
  rw [List.map_cons, tv_pair (key hp).1] at k
  refine va_aldq hm.1 hm.2.1 hG.2.1 hP q0 3 g1 rfl hi hd ?_
  rw [hf]
  exact k
theorem s_alen {X : Cx} {d m pc c a : Nat} {L : Lc} {S : List Vl} {M : Mem} {Q : Option Vl → Mem → Prop} (h1 : (qcol c).1 = 1) (hd : decode (qbt m) pc = .ok (.arraylength, 1)) (h2 : 2 ≤ c)
    (h : V X d m (pc + 1) L (vI (Int32.ofNat (qcol c).2.1) :: S) M Q) : V X d m pc L (vR c a :: S) M Q := by
  refine V.step (S' := vI (Int32.ofNat (qcol c).2.1) :: S) (fun _ ho => okS_cons trivial (okS_tail ho)) ?_ h
  intro p e s mm args below meth cc H locs ls Z hm hG hP hS hL hoL hoS k
  obtain ⟨q0, g1, g2⟩ := wl_get (X := X) (M := M) (ok_pair (okS_head hoS) h2)
  rw [ent1 h1] at g1
  rw [List.map_cons, tv_pair h2]
  exact va_alen hm.1 hm.2.1 hG.2.1 hP q0 0 g1 rfl rfl hd k
theorem col_ge {c k : Nat} (h : (qcol c).1 = k) (hk : k ≠ 9) : 2 ≤ c := by
  rcases c with _ | _ | c
  · exact absurd (h.symm.trans rfl) hk
  · exact absurd (h.symm.trans rfl) hk
  · omega
theorem s_ret {X : Cx} {d m pc : Nat} {L : Lc} {S : List Vl} {M : Mem} {Q : Option Vl → Mem → Prop} {r : Option Vl} (hq : Q r M)
    (row : ∀ (p : Program) (e : Env) (s : State) (mm : MethodId) (args : Array Value) (below : List Frame) (meth : Method) (c : Code) (H : Heap) (locs : List Loc) (ls : Array Slot), MC m p s mm args meth c → (∀ t : State, t.heap = H → s.WarmedH t.vm → QC X Q args s (.returned (r.map (tv X))) t) → (∀ q ∈ locs, inW X q.base) → W p (xl X) e (rmm d) s mm args below meth c H locs 0 0 (MQ below (QC X Q) args s 0 0 (inW X)) (F0 mm pc ls (S.map (tv X)))) : V X d m pc L S M Q := by
  intro p e s mm args below meth c H locs ls C
  obtain ⟨hm, hG, hP, hS, hL, hl, hoL, hoS⟩ := C
  exact row p e s mm args below meth c H locs ls hm (fun t ht hW => ⟨r, M, rfl, hq, by rw [ht]; exact hP, hS.F ht⟩) hS.2.2
