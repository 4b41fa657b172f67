/-! calls -/
theorem gw_good : ∀ w ∈ qgw, (w.onTables && w.keeps) = true ∨ ∃ ty, w = .arrayClass ty := fun w h => good_of_word (List.mem_filter.mp h).2
theorem map_at {α β : Type} {f g : α → β} : ∀ {l : List α}, l.map f = l.map g → ∀ a ∈ l, f a = g a
  | [], _, a, h => by cases h
  | b :: l, he, a, h => by
    simp only [List.map_cons, List.cons.injEq] at he
    rcases List.mem_cons.mp h with h1 | h1
    · subst h1; exact he.1
    · exact map_at he.2 a h1
theorem code_at {m : Nat} (h : m < qNM) : lw_tbl[(qmw m).2.2.1]? = some (Cond.code (qyn m) (qbt m) (qml m) (qrt m)) := by
  have h : m < 277 := h
  have key : ∀ (b : Nat) (l : List Nat), (∀ i, i < 20 → b + i < 277 → b + i ∈ l) → b ≤ m → m < b + 20 → m ∈ l := fun b l hl h1 h2 => by
    have h3 := hl (m - b) (by omega) (by omega)
    rwa [show b + (m - b) = m by omega] at h3
  by_cases h0 : m < 20
  · exact map_at qMC0 m (key 0 _ (by decide) (by omega) (by omega))
  by_cases h1 : m < 40
  · exact map_at qMC1 m (key 20 _ (by decide) (by omega) (by omega))
  by_cases h2 : m < 60
  · exact map_at qMC2 m (key 40 _ (by decide) (by omega) (by omega))
  by_cases h3 : m < 80
  · exact map_at qMC3 m (key 60 _ (by decide) (by omega) (by omega))
  by_cases h4 : m < 100
  · exact map_at qMC4 m (key 80 _ (by decide) (by omega) (by omega))
  by_cases h5 : m < 120
  · exact map_at qMC5 m (key 100 _ (by decide) (by omega) (by omega))
  by_cases h6 : m < 140
  · exact map_at qMC6 m (key 120 _ (by decide) (by omega) (by omega))
  by_cases h7 : m < 160
  · exact map_at qMC7 m (key 140 _ (by decide) (by omega) (by omega))
  by_cases h8 : m < 180
  · exact map_at qMC8 m (key 160 _ (by decide) (by omega) (by omega))
  by_cases h9 : m < 200
  · exact map_at qMC9 m (key 180 _ (by decide) (by omega) (by omega))
  by_cases h10 : m < 220
  · exact map_at qMC10 m (key 200 _ (by decide) (by omega) (by omega))
  by_cases h11 : m < 240
  · exact map_at qMC11 m (key 220 _ (by decide) (by omega) (by omega))
  by_cases h12 : m < 260
  · exact map_at qMC12 m (key 240 _ (by decide) (by omega) (by omega))
  · exact map_at qMC13 m (key 260 _ (by decide) (by omega) (by omega))
theorem code_gw {m : Nat} (h : m < qNM) : Cond.code (qyn m) (qbt m) (qml m) (qrt m) ∈ qgw := qgw_of (code_at h) rfl
theorem mw_of {m : Nat} (h : m < qNM) : ((qmw m).1 = true → Cond.static (qyn m) ∈ qgw) ∧ ((qmw m).1 = false → Cond.instanceMethod (qyn m) ∈ qgw ∧ Cond.selects (qcn (qow m)) (qyn m) (qyn m) ∈ qgw) ∧ Cond.initialized (qcn (qow m)) ∈ qgw := by
  have h1 := all_of qMW_ok (List.mem_range.mpr h)
  simp only [Bool.and_eq_true, Bool.or_eq_true, decide_eq_true_eq] at h1
  obtain ⟨⟨a1, a2⟩, a3⟩ := h1
  refine ⟨fun z => ?_, fun z => ⟨?_, ?_⟩, qgw_of a3 rfl⟩
  · rw [z] at a1
    exact qgw_of a1 rfl
  · rw [z] at a1
    exact qgw_of a1 rfl
  · rcases a2 with a2 | a2
    · rw [z] at a2; cases a2
    · exact qgw_of a2 rfl
theorem md_of {m : Nat} (h : m < qNM) : (parseMethodDescriptor (qyn m).desc).map (fun d => d.parameters.length) = some (qmw m).2.1 ∧ (qyn m).cls ≠ "java/lang/invoke/MethodHandle" ∧ (qyn m).cls ≠ "java/lang/invoke/VarHandle" ∧ plainName (qyn m).cls = true ∧ qml m ≤ 20 := by
  have h1 := all_of qMD_ok (List.mem_range.mpr h)
  simp only [Bool.and_eq_true, decide_eq_true_eq] at h1
  exact ⟨h1.1.1.1.1, h1.1.1.1.2, h1.1.1.2, h1.1.2, h1.2⟩
theorem good_code {m : Nat} (h : m < qNM) : GoodIn qgw (Cond.code (qyn m) (qbt m) (qml m) (qrt m) :: qgw) := by
  intro w hw
  rcases List.mem_cons.mp hw with h1 | h1
  · subst h1
    exact ⟨code_gw h, gw_good _ (code_gw h)⟩
  · exact ⟨h1, gw_good _ h1⟩
/-- what a call leaves, and how the caller goes on -/
theorem run_W {p : Program} {l : Launch} {e : Env} {R : Room} {s : State} {m : MethodId} {args : Array Value} {below : List Frame} {meth : Method} {c : Code} {H : Heap} {locs : List Loc} {Z : State → Prop} {pc : Nat} {ls : Array Slot} {st0 rest : List Value} {Qa : State → Outcome → State → Prop} {A : Nat → Prop} {H0 : Heap}
    (hr : va_Run p l e R s m args below meth c H locs 0 0 0 0 (F0 m pc ls st0) rest Qa A) (hS : va_S A H0 H locs) (hF : ∀ st o t, Qa st o t → va_F A st t)
    (kk : ∀ (v : Option Value) (st t : State) (H1 : Heap) (locs1 : List Loc), Qa st (.returned v) t → t.heap = H1 → va_S A H0 H1 locs1 → W p l e R s m args below meth c H1 locs1 0 0 Z (F0 m (pc + 3) ls (v.toList ++ rest))) : W p l e R s m args below meth c H locs 0 0 Z (F0 m pc ls st0) := by
  intro T hT X
  obtain ⟨v, st₀, t, T', L, h0, X', hL, e1, e2, hq, st⟩ := hr T hT X
  obtain ⟨hz, hk⟩ := hF _ _ _ hq
  rw [h0] at hz hk
  obtain ⟨t2, a1, b1⟩ := kk v st₀ t T'.heap (locs ++ L) hq e1.symm
    ⟨Nat.le_trans hS.1 (by rw [e1]; exact hz), fun q h1 h2 => by rw [e1, hk q (Nat.lt_of_lt_of_le h1 hS.1) h2]; exact hS.2.1 q h1 h2, fun q hq => by
      rcases List.mem_append.mp hq with h | h
      · exact hS.2.2 q h
      · exact hL q h⟩ T' rfl X'
  exact ⟨t2, st t2 a1, b1⟩
theorem cc_blind {X : Cx} {M : Mem} {As : List Value} : FrameBlind (va_Pc As (fun U => Gd X U U.heap ∧ Rp X M U.heap)) := by
  intro a U g mk hq
  obtain ⟨q0, q1, q2⟩ := hq
  exact ⟨q0, Gd.same (s := U) (U := U.calling g mk a) rfl q1, q2⟩
theorem cc_pre {X : Cx} {M : Mem} {As : List Value} {s : State} {H : Heap} {locs : List Loc} (hG : Gd X s s.heap) (hP : Rp X M H) (hS : va_S (inW X) s.heap H locs) : ∀ U : State, U.heap = H → s.WarmedH U.vm → va_Pc As (fun U => Gd X U U.heap ∧ Rp X M U.heap) As.toArray U := by
  intro U hU hW
  refine ⟨rfl, Gd.move hW ?_ hG, by rw [hU]; exact hP⟩
  rw [hU]
  exact hS.2.1
theorem cat_sum {X : Cx} : ∀ (S : List Vl), ((S.map (tv X)).map fun v => v.category).sum = (S.map qcat).sum
  | [] => rfl
  | v :: S => by
    simp only [List.map_cons, List.sum_cons, qcat_tv]
    have := cat_sum (X := X) S
    simp only [List.map_map] at this ⊢
    omega
theorem room_of {m : Nat} (h : m < qNM) (d : Nat) : (rmm d).frames + 1 ≤ (rmm (d + 1)).frames ∧ 8 + (qml m + 11) + (rmm d).locals ≤ (rmm (d + 1)).locals := by
  have := (md_of h).2.2.2.2
  refine ⟨Nat.le_refl _, ?_⟩
  show 8 + (qml m + 11) + (100 * d + 100) ≤ 100 * (d + 1) + 100
  omega
theorem okS_take {S : List Vl} {u : Nat} (h : okS S) : okS (S.take u).reverse := fun v hv => h v (List.mem_of_mem_take (List.mem_reverse.mp hv))
theorem okS_ret {S : List Vl} {u : Nat} {r : Option Vl} (h : okS S) (hr : okR r) : okS (r.toList ++ S.drop u) := by
  intro v hv
  rcases List.mem_append.mp hv with h1 | h1
  · rcases r with _ | w
    · cases h1
    · have : v = w := by simpa using h1
      subst this
      rcases v with x | y | z
      · trivial
      · trivial
      · exact hr.elim
  · exact h v (List.mem_of_mem_drop h1)
theorem lv_room' {m : MethodId} {pc n : Nat} {ls : Array Slot} {rest : List Value} (h : n ≤ 8) : 2 * (F0 m pc ls rest).monitorRoom + n ≤ 8 := by
  show 2 * 0 + n ≤ 8
  omega
theorem s_static {X : Cx} {d m pc j t u : Nat} {L : Lc} {S : List Vl} {M M' : Mem} {r : Option Vl} {Q : Option Vl → Mem → Prop} (hd : decode (qbt m) pc = .ok (.invokestatic j, 3)) (ht : t < qNM) (hu : u = (qmw t).2.1) (hst : (qmw t).1 = true)
    (hl : Cond.methodLink (qcn (qow m)) j (qyn t) ∈ qgw ∨ Cond.methodLinkNest (qcn (qow m)) j (qyn t) "ClayBoots" ∈ qNW) (hul : u ≤ S.length) (hw : ((S.drop u).map qcat).sum ≤ 8) (hc : CC X d t (S.take u).reverse M r M')
    (h : V X (d + 1) m (pc + 3) L (r.toList ++ S.drop u) M' Q) : V X (d + 1) m pc L S M Q := by
  intro p e s mm args below meth c H locs ls C
  obtain ⟨⟨hx, hb, hr, hml, hown, hts, hlk⟩, hG, hP, hS, hL, hll, hoL, hoS⟩ := C
  obtain ⟨hokr, hcc⟩ := hc
  have hM := hcc (okS_take hoS)
  have hlen : ((S.take u).reverse.map (tv X)).length = u := by simp; omega
  have hstk : (F0 mm pc ls (S.map (tv X))).stack = ((S.take u).reverse.map (tv X)).reverse ++ (S.drop u).map (tv X) := by
    show S.map (tv X) = _
    rw [← List.map_reverse, List.reverse_reverse, ← List.map_append, List.take_append_drop]
  have hW : 2 * (F0 mm pc ls (S.map (tv X))).monitorRoom + (((S.drop u).map (tv X)).map fun v => v.category).sum ≤ 8 := by
    rw [cat_sum]
    exact lv_room' hw
  have fin : ∀ (hr : va_Run p (xl X) e (rmm (d + 1)) s mm args below meth c H locs 0 0 0 0 (F0 mm pc ls (S.map (tv X))) ((S.drop u).map (tv X)) ((fun _ st o t => o = .returned (r.map (tv X)) ∧ Rp X M' t.heap ∧ va_F (inW X) st t) ((S.take u).reverse.map (tv X)).toArray) (inW X)), W p (xl X) e (rmm (d + 1)) s mm args below meth c H locs 0 0 (MQ below (QC X Q) args s 0 0 (inW X)) (F0 mm pc ls (S.map (tv X))) := by
    intro hr
    refine run_W hr hS (fun st o t hq => hq.2.2) (fun v st t H1 locs1 hq hH hS1 => ?_)
    obtain ⟨hv, hR, -⟩ := hq
    cases hv
    have := h p e s mm args below meth c H1 locs1 ls ⟨⟨hx, hb, by assumption, hml, hown, hts, hlk⟩, hG, by rw [← hH]; exact hR, hS1, hL, hll, hoL, okS_ret hoS hokr⟩
    cases r with
    | none => simpa using this
    | some w => simpa using this
  have mw := mw_of ht
  have md := md_of ht
  rcases hl with hl | hl
  · exact fin (va_runS (Ts := qgw) (As := (S.take u).reverse.map (tv X)) (bytes := qbt t) (maxL := qml t) (ret := qrt t) ⟨hx, hb, hml, hown, hts⟩ hM ⟨callB_of u hts (good_code ht) rfl rfl rfl (hts _ mw.2.2) (hts _ hl) ⟨md.2.1, md.2.2.1, by rw [md.1, hu]⟩ (room_of ht d), hts _ (mw.1 hst)⟩ ⟨cc_blind, cc_pre hG hP hS⟩ rfl hlen hL.1 hstk hW hd ⟨Nat.le_refl _, Nat.le_refl _⟩)
  · exact fin (va_runSN (Ts := qgw) (As := (S.take u).reverse.map (tv X)) (bytes := qbt t) (maxL := qml t) (ret := qrt t) ⟨hx, hb, hml, hown, hts⟩ hM ⟨va_cnB u hts (good_code ht) rfl rfl rfl (hG.2.2.1 _ hl) (hts _ mw.2.2) ⟨md.2.1, md.2.2.1, by rw [md.1, hu]⟩ (room_of ht d), hts _ (mw.1 hst), trivial⟩ ⟨cc_blind, cc_pre hG hP hS⟩ rfl hlen hL.1 hstk hW hd ⟨Nat.le_refl _, Nat.le_refl _⟩)
theorem s_virtual {X : Cx} {d m pc j t u : Nat} {L : Lc} {S : List Vl} {M M' : Mem} {r : Option Vl} {Q : Option Vl → Mem → Prop} (hd : decode (qbt m) pc = .ok (.invokevirtual j, 3)) (ht : t < qNM) (hu : u = (qmw t).2.1 + 1) (hst : (qmw t).1 = false)
    (hl : Cond.methodLink (qcn (qow m)) j (qyn t) ∈ qgw) (hul : u ≤ S.length) (hw : ((S.drop u).map qcat).sum ≤ 8) (hrv : rcv (qow t) (S.take u).reverse = true) (hc : CC X d t (S.take u).reverse M r M')
    (h : V X (d + 1) m (pc + 3) L (r.toList ++ S.drop u) M' Q) : V X (d + 1) m pc L S M Q := by
  intro p e s mm args below meth c H locs ls C
  obtain ⟨⟨hx, hb, hr, hml, hown, hts, hlk⟩, hG, hP, hS, hL, hll, hoL, hoS⟩ := C
  obtain ⟨hokr, hcc⟩ := hc
  have hok := okS_take (u := u) hoS
  have hM := hcc hok
  have hlen : ((S.take u).reverse).length = u := by simp; omega
  have hstk : (F0 mm pc ls (S.map (tv X))).stack = ((S.take u).reverse.map (tv X)).reverse ++ (S.drop u).map (tv X) := by
    show S.map (tv X) = _
    rw [← List.map_reverse, List.reverse_reverse, ← List.map_append, List.take_append_drop]
  have hW : 2 * (F0 mm pc ls (S.map (tv X))).monitorRoom + (((S.drop u).map (tv X)).map fun v => v.category).sum ≤ 8 := by
    rw [cat_sum]
    exact lv_room' hw
  generalize hA : (S.take u).reverse = A at *
  unfold rcv at hrv
  split at hrv
  · rename_i cc aa As
    have hrec : ∃ b, tv X (vR cc aa) = .ref b ∧ ∃ cell : Cell, H[b]? = some cell ∧ cell.vm.isStatics = false ∧ s.vm.findClass (qcn (qow t)) = some cell.cls := by
      simp only [Bool.or_eq_true, Bool.and_eq_true, Nat.beq_eq] at hrv
      rcases hrv with ⟨⟨h1, h2⟩, h3⟩ | ⟨h1, h2⟩
      · have h1 := Nat.le_of_ble_eq_true h1
        have hp := ok_pair (okS_head hok) h1
        obtain ⟨q0, g1, g2⟩ := wl_get (X := X) (M := M) hp
        rw [ent0 h2] at g1
        obtain ⟨r0, f1, -⟩ := hP q0 _ g1
        rw [h3] at f1 g1
        have hci : qow t < 12 := by
          have := (List.getElem?_eq_some_iff.mp f1).1
          simpa [qcl] using this
        exact ⟨_, tv_pair h1, va_recv hG.2.1 hP (qcl_at hci) g1⟩
      · subst h1
        have h24 : aa < 24 := by
          rcases okS_head hok with h | h | h
          · omega
          · exact h.2
          · exact absurd (pair_ge h) (by omega)
        refine ⟨_, rfl, ?_⟩
        rw [h2]
        exact vk_recv hG.2.2.2.2.1 h24 hS
    obtain ⟨b, hb1, hcell⟩ := hrec
    have fin : ∀ (hr : va_Run p (xl X) e (rmm (d + 1)) s mm args below meth c H locs 0 0 0 0 (F0 mm pc ls (S.map (tv X))) ((S.drop u).map (tv X)) ((fun _ st o t => o = .returned (r.map (tv X)) ∧ Rp X M' t.heap ∧ va_F (inW X) st t) ((Value.ref b :: As.map (tv X))).toArray) (inW X)), W p (xl X) e (rmm (d + 1)) s mm args below meth c H locs 0 0 (MQ below (QC X Q) args s 0 0 (inW X)) (F0 mm pc ls (S.map (tv X))) := by
      intro hr
      refine run_W hr hS (fun st o t hq => hq.2.2) (fun v st t H1 locs1 hq hH hS1 => ?_)
      obtain ⟨hv, hR, -⟩ := hq
      cases hv
      have := h p e s mm args below meth c H1 locs1 ls ⟨⟨hx, hb, by assumption, hml, hown, hts, hlk⟩, hG, by rw [← hH]; exact hR, hS1, hL, hll, hoL, okS_ret hoS hokr⟩
      cases r with
      | none => simpa using this
      | some w => simpa using this
    have mw := mw_of ht
    have md := md_of ht
    have hargs : (vR cc aa :: As).map (tv X) = Value.ref b :: As.map (tv X) := by rw [List.map_cons, hb1]
    rw [hargs] at hM hstk
    have hlen2 : (As.map (tv X)).length = (qmw t).2.1 := by
      rw [List.length_map]
      have : (vR cc aa :: As).length = u := hlen
      simp only [List.length_cons] at this
      omega
    exact fin (va_runV (Ts := qgw) (As := As.map (tv X)) (b := b) (C := qcn (qow t)) (bytes := qbt t) (maxL := qml t) (ret := qrt t) ⟨hx, hb, hml, hown, hts⟩ hM ⟨callB_of _ hts (good_code ht) rfl rfl rfl (hts _ mw.2.2) (hts _ hl) ⟨md.2.1, md.2.2.1, md.1⟩ (room_of ht d), hts _ (mw.2.1 hst).1, hts _ (mw.2.1 hst).2⟩ ⟨cc_blind, hcell, cc_pre hG hP hS⟩ rfl hlen2 hL.1 (by rw [hstk]; simp) hW hd ⟨Nat.le_refl _, Nat.le_refl _⟩)
  · cases hrv
