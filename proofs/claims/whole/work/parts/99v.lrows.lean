/-! the law's own rows -/
def LC (X : Cx) (b L : Nat) (xs : Nat → Int32) (p : Program) (s : State) (m : MethodId) (args : Array Value) (c : Code) : Prop :=
  p.tables.exec = Jvm.exec ∧ c.code = code ∧ c.maxLocals = 4 ∧ s.vm.findClass "ClayBootsLaw" = some m.cls ∧ (∀ w ∈ qgw, w.before args s = true) ∧ va_X b L xs s s.heap ∧ b < s.heap.size ∧ Gd X s s.heap ∧ (∀ q, inW X q → s.heap.size ≤ q) ∧ L ≤ 3072
theorem pr2 : (2, 0) ∈ qPAIRS := by decide
theorem pr100 : (100, 0) ∈ qPAIRS := by decide
abbrev lvs (i r2 r1 b : Nat) : List (Nat × Value) := [(3, .int (iN i)), (2, .ref r2), (1, .ref r1), (0, .ref b)]
section LR
variable {X : Cx} {b L : Nat} {xs : Nat → Int32} {p : Program} {e : Env} {R : Room} {s : State} {m : MethodId} {args : Array Value} {below : List Frame} {meth : Method} {c : Code} {H : Heap} {locs : List Loc} {cells slots : Nat} {Q : State → Prop} {pc : Nat} {ls : Array Slot} {rest st0 : List Value} {i r2 r1 : Nat} {l0 : Launch}
theorem l_arg (C : LC X b L xs p s m args c) (hS : va_S (jA s.heap.size) s.heap H locs) (hl : lv_has ls 4 (lvs i r2 r1 b)) (k : Nat) (hik : i + k < L) (hkv : Int32.ofInt (k : Int) = iN k) (d0 : decode code pc = .ok (.aload_n 0, 1)) (d1 : decode code (pc + 1) = .ok (.iload_n 3, 1)) (d2 : decode code (pc + 2) = .ok (.iconst (k : Int), 1)) (d3 : decode code (pc + 3) = .ok (.iadd, 1)) (d4 : decode code (pc + 4) = .ok (.iaload, 1))
    (kk : W p l0 e R s m args below meth c H locs cells slots Q (F0 m (pc + 5) ls (.int (xs (i + k)) :: rest))) : W p l0 e R s m args below meth c H locs cells slots Q (F0 m pc ls rest) := by
  obtain ⟨hx, hb, hml, hown, hts, hX, hbl, hG, hin, hL⟩ := C
  refine lv_aload_n hx hb d0 rfl (lv_at hl 3 rfl) ?_
  refine lv_iload_n hx hb d1 rfl (lv_at hl 0 rfl) ?_
  refine lv_iconst (v := iN k) hx hb d2 hkv ?_
  refine lv_iadd hx hb d3 ?_
  rw [iN_add]
  have hcl : (iN (i + k)).toNatClampNeg = i + k := ix_of (by omega)
  refine va_sld hx hb hX hbl (A := jA s.heap.size) (fun z => absurd hbl (Nat.not_lt.mpr z)) hS (inb_of hik (by omega)) d4 ?_
  rw [hcl]
  exact kk
theorem l_bool (C : LC X b L xs p s m args c) {v : Int32} (d0 : decode code pc = .ok (.ifCond .eq 7, 3)) (d1 : decode code (pc + 3) = .ok (.iconst 1, 1)) (d2 : decode code (pc + 4) = .ok (.goto 4, 3)) (d3 : decode code (pc + 7) = .ok (.iconst 0, 1))
    (kk : W p l0 e R s m args below meth c H locs cells slots Q (F0 m (pc + 8) ls (.int (if v = 0 then 0 else 1) :: rest))) : W p l0 e R s m args below meth c H locs cells slots Q (F0 m pc ls (.int v :: rest)) := by
  refine lv_if_eq (tgt := pc + 7) C.1 C.2.1 d0 (by omega) (fun hv => ?_) (fun hv => ?_)
  · rw [if_pos hv] at kk
    refine lv_iconst (v := 0) C.1 C.2.1 d3 (by decide) ?_
    exact kk
  · rw [if_neg hv] at kk
    refine lv_iconst (v := 1) C.1 C.2.1 d1 (by decide) ?_
    refine lv_goto (tgt := pc + 8) C.1 C.2.1 d2 (by omega) ?_
    exact kk
theorem l_pre (C : LC X b L xs p s m args c) (hS : va_S (jA s.heap.size) s.heap H locs) {M : Mem} (hP : Rp X M H) {As : List Value} : ∀ U : State, U.heap = H → s.WarmedH U.vm → va_Pc As (fun U => Gd X U U.heap ∧ Rp X M U.heap) As.toArray U := by
  intro U hU hW
  obtain ⟨hx, hb, hml, hown, hts, hX, hbl, hG, hin, hL⟩ := C
  refine ⟨rfl, Gd.move hW (fun q hq _ => ?_) hG, by rw [hU]; exact hP⟩
  rw [hU]
  exact hS.2.1 q hq (Nat.not_le.mpr hq)
theorem l_call (C : LC X b L xs p s m args c) (hS : va_S (jA s.heap.size) s.heap H locs) {M M' : Mem} (hP : Rp X M H) (hls : ls.size = 4) (hRf : 42 ≤ R.frames) (hRl : 5000 ≤ R.locals) (hcl : cells ≤ R.cells) (hsl : slots ≤ R.slots) (t cc : Nat) {is : List Int32} {x : Int32} (ht : t < qNM) (hc : CC X 41 t (vR cc 0 :: is.map vI) M (some (vI x)) M') (hq : (cc, 0) ∈ qPAIRS) (hcol : (qcol cc).1 = 0 ∧ (qcol cc).2.1 = qow t) (hstat : (qmw t).1 = false) (hn : is.length = (qmw t).2.1) {index : Nat} (hl : Cond.methodLink "ClayBootsLaw" index (qyn t) ∈ qgw) (hst : st0 = (is.map (fun z => Value.int z)).reverse ++ .ref (xa X cc 0) :: rest) (hW : (rest.map fun v => v.category).sum ≤ 8) (hdg : decode code pc = .ok (.invokevirtual index, 3))
    (kk : ∀ (H1 : Heap) (locs1 : List Loc), Rp X M' H1 → va_S (jA s.heap.size) s.heap H1 locs1 → W p (xl X) e R s m args below meth c H1 locs1 cells slots Q (F0 m (pc + 3) ls (.int x :: rest))) : W p (xl X) e R s m args below meth c H locs cells slots Q (F0 m pc ls st0) := by
  have C0 := C
  obtain ⟨hx, hb, hml, hown, hts, hX, hbl, hG, hin, hL⟩ := C
  subst hst
  have h2 := pair_ge hq
  have hok : okS (vR cc 0 :: is.map vI) := by
    intro v hv
    rcases List.mem_cons.mp hv with h | h
    · subst h
      exact Or.inr (Or.inr hq)
    · obtain ⟨z, -, rfl⟩ := List.mem_map.mp h
      trivial
  have hM := hc.2 hok
  have hargs : (vR cc 0 :: is.map vI).map (tv X) = Value.ref (xa X cc 0) :: is.map (fun z => Value.int z) := by
    rw [List.map_cons, tv_pair h2, List.map_map]
    rfl
  rw [hargs] at hM
  have hrec : ∃ cell : Cell, H[xa X cc 0]? = some cell ∧ cell.vm.isStatics = false ∧ s.vm.findClass (qcn (qow t)) = some cell.cls := by
    obtain ⟨q0, g1, g2⟩ := wl_get (X := X) (M := M) hq
    rw [ent0 hcol.1] at g1
    obtain ⟨r0, f1, -⟩ := hP q0 _ g1
    rw [hcol.2] at f1 g1
    have hci : qow t < 12 := by
      have := (List.getElem?_eq_some_iff.mp f1).1
      simpa [qcl] using this
    exact va_recv hG.2.1 hP (qcl_at hci) g1
  have mw := mw_of ht
  have md := md_of ht
  have hr := va_runV (cells := cells) (slots := slots) (locs := locs) (below := below) (meth := meth) (e := e) (R := R) (g := F0 m pc ls ((is.map (fun z => Value.int z)).reverse ++ .ref (xa X cc 0) :: rest)) (rest := rest) (Ts := qgw) (As := is.map (fun z => Value.int z)) (b := xa X cc 0) (C := qcn (qow t)) (bytes := qbt t) (maxL := qml t) (ret := qrt t) ⟨hx, hb, hml, hown, hts⟩ hM ⟨callB_of (R := R) _ hts (good_code ht) rfl rfl rfl (hts _ mw.2.2) (hts _ hl) ⟨md.2.1, md.2.2.1, md.1⟩ ⟨hRf, by show 8 + (qml t + 11) + (100 * 41 + 100) ≤ R.locals; have := md.2.2.2.2; omega⟩, hts _ (mw.2.1 hstat).1, hts _ (mw.2.1 hstat).2⟩ ⟨cc_blind, hrec, l_pre C0 hS hP⟩ rfl (by rw [List.length_map]; exact hn) hls rfl (lv_room' hW) hdg ⟨hcl, hsl⟩
  refine run_W2 hr hS (fun q h => hin q h) (fun st o t hq => hq.2.2) (fun v st t' H1 locs1 hq hH hS1 => ?_)
  obtain ⟨hv, hR1, -⟩ := hq
  cases hv
  exact kk H1 locs1 (by rw [← hH]; exact hR1) hS1
end LR
