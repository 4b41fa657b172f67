/-! making: calls of constructors, their ends -/
theorem run_W2 {p : Program} {l : Launch} {e : Env} {R : Room} {s : State} {m : MethodId} {args : Array Value} {below : List Frame} {meth : Method} {c : Code} {H : Heap} {locs : List Loc} {cells slots mc ms : Nat} {Z : State → Prop} {pc : Nat} {ls : Array Slot} {st0 rest : List Value} {Qa : State → Outcome → State → Prop} {A A0 : Nat → Prop} {H0 : Heap}
    (hr : va_Run p l e R s m args below meth c H locs cells slots mc ms (F0 m pc ls st0) rest Qa A) (hS : va_S A0 H0 H locs) (hA : ∀ q, A q → A0 q) (hF : ∀ st o t, Qa st o t → va_F A st t)
    (kk : ∀ (v : Option Value) (st t : State) (H1 : Heap) (locs1 : List Loc), Qa st (.returned v) t → t.heap = H1 → va_S A0 H0 H1 locs1 → W p l e R s m args below meth c H1 locs1 (cells + mc) (slots + ms) Z (F0 m (pc + 3) ls (v.toList ++ rest))) : W p l e R s m args below meth c H locs cells slots Z (F0 m pc ls st0) := by
  intro T hT X
  obtain ⟨v, st₀, t, T', L, h0, X', hL, e1, e2, hq, st⟩ := hr T hT X
  obtain ⟨hz, hk⟩ := hF _ _ _ hq
  rw [h0] at hz hk
  obtain ⟨t2, a1, b1⟩ := kk v st₀ t T'.heap (locs ++ L) hq e1.symm
    ⟨Nat.le_trans hS.1 (by rw [e1]; exact hz), fun q h1 h2 => by rw [e1, hk q (Nat.lt_of_lt_of_le h1 hS.1) (fun z => h2 (hA q z))]; exact hS.2.1 q h1 h2, fun q hq => by
      rcases List.mem_append.mp hq with h | h
      · exact hS.2.2 q h
      · exact hA _ (hL q h)⟩ T' rfl X'
  exact ⟨t2, st t2 a1, b1⟩
theorem good_any {w0 : Cond} (h : w0 ∈ qgw) : GoodIn qgw (w0 :: qgw) := by
  intro w hw
  rcases List.mem_cons.mp hw with h1 | h1
  · subst h1
    exact ⟨h, gw_good _ h⟩
  · exact ⟨h1, gw_good _ h1⟩
theorem j_call {T : Type} {X : Cx} {base : Nat} {bt : ByteArray} {ml : Nat} {own : String} {p : Program} {e : Env} {R : Room} {s : State} {m : MethodId} {args : Array Value} {below : List Frame} {meth : Method} {c : Code} {H : Heap} {locs : List Loc} {cells slots cells' slots' : Nat} {Q : State → Prop} {pc : Nat} {ls : Array Slot} {rest st0 : List Value} {ws l : va_W} {k : Nat} {x : Nat × va_E}
    {y : MethodName} {bt' : ByteArray} {ml' : Nat} {rm' : Room} {ci' : Nat} {d0 as : List Value} {nc ns : Nat} {o : T → List Value} {mk : T → va_W} {q : Nat} (C : JC X base bt ml own p s m args meth c) (hls : ls.size = ml) (hP : va_P (xD X) qcl (jw ws k x (l ++ [(q, .inr (ci', d0))])) H) (hD : va_D (jA base) (jw ws k x (l ++ [(q, .inr (ci', d0))]))) (hS : va_S (jA base) s.heap H locs) (hM : CI X base y bt' ml' rm' ci' d0 as nc ns o mk)
    {index n : Nat} (hlk : Cond.methodLink own index y ∈ qgw ∨ Cond.methodLinkNest own index y "ClayBoots" ∈ qNW) (hcode : Cond.code y bt' ml' none ∈ qgw) (hini : Cond.initialized y.cls ∈ qgw) (hin : Cond.instanceMethod y ∈ qgw) (hy : y.name = "<init>") (hd : y.cls ≠ "java/lang/invoke/MethodHandle" ∧ y.cls ≠ "java/lang/invoke/VarHandle" ∧ (parseMethodDescriptor y.desc).map (fun d => d.parameters.length) = some n) (hn : as.length = n) (hrc : rm'.cells = nc) (hrs : rm'.slots = ns) (hR : rm'.frames + 1 ≤ R.frames ∧ 8 + (ml' + 11) + rm'.locals ≤ R.locals) (hc : cells + nc = cells') (hs : slots + ns = slots') (hc2 : cells' ≤ R.cells) (hs2 : slots' ≤ R.slots) (hst : st0 = as.reverse ++ .ref q :: rest) (hW : (rest.map fun v => v.category).sum ≤ 8) (hdg : decode bt pc = .ok (.invokespecial index, 3))
    (kk : ∀ (u : T) (H1 : Heap) (locs1 : List Loc), va_P (xD X) qcl (jw ws k x (l ++ (q, .inr (ci', o u)) :: mk u)) H1 → va_D (jA base) (jw ws k x (l ++ (q, .inr (ci', o u)) :: mk u)) → va_S (jA base) s.heap H1 locs1 → W p (xl X) e R s m args below meth c H1 locs1 cells' slots' Q (F0 m (pc + 3) ls rest)) : W p (xl X) e R s m args below meth c H locs cells slots Q (F0 m pc ls st0) := by
  obtain ⟨hx, hb, hr, hml, hown, hts, hlk0, hinm, hG⟩ := C
  subst hst hc hs
  have hMt := hM (jw ws k x (l ++ [(q, .inr (ci', d0))])) (ws.length + l.length) q jw_in
  have hpre : PreS s H (va_Pc (.ref q :: as) (fun U => JG X base U ∧ va_P (xD X) qcl (jw ws k x (l ++ [(q, .inr (ci', d0))])) U.heap ∧ va_D (jA base) (jw ws k x (l ++ [(q, .inr (ci', d0))])))) (.ref q :: as) := by
    refine ⟨fun a U g mk' hq => ?_, fun U hU hWm => ⟨rfl, hG.move hWm (by rw [hU]; exact Nat.le_trans hG.2.2.2 hS.1), by rw [hU]; exact hP, hD⟩⟩
    obtain ⟨q0, ⟨g1, g2, g3, g4⟩, q2, q3⟩ := hq
    exact ⟨q0, ⟨va_K.moved (u := U) (U := U.calling g mk' a) (Vm.Alike.refl U.vm) g1, fun w hw => by
      obtain ⟨z1, z2, z3, z4, rfl⟩ : ∃ a i x hh, w = .methodLinkNest a i x hh := by
        simp only [qNW, List.mem_cons, List.not_mem_nil, or_false] at hw
        rcases hw with h | h | h | h | h | h | h | h | h | h | h | h | h | h | h | h <;> exact ⟨_, _, _, _, h⟩
      exact va_Nw.same rfl (u := U) (U := U.calling g mk' a) rfl (g2 _ hw), va_AO.moved (u := U) (U := U.calling g mk' a) (Vm.Alike.refl U.vm) g3, g4⟩, q2, q3⟩
  have hmr : 2 * (F0 m pc ls (as.reverse ++ .ref q :: rest)).monitorRoom + (rest.map fun v => v.category).sum ≤ 8 := lv_room' hW
  have fin : ∀ (hr : va_Run p (xl X) e R s m args below meth c H locs cells slots nc ns (F0 m pc ls (as.reverse ++ .ref q :: rest)) rest ((fun _ st oc t => oc = .returned none ∧ (∃ u : T, va_P (xD X) qcl (jw (jw ws k x (l ++ [(q, .inr (ci', d0))])) (ws.length + l.length) (q, .inr (ci', o u)) (mk u)) t.heap ∧ va_D (jA base) (jw (jw ws k x (l ++ [(q, .inr (ci', d0))])) (ws.length + l.length) (q, .inr (ci', o u)) (mk u))) ∧ va_F (jA base) st t) (Value.ref q :: as).toArray) (jA base)), W p (xl X) e R s m args below meth c H locs cells slots Q (F0 m pc ls (as.reverse ++ .ref q :: rest)) := by
    intro hr
    refine run_W2 hr hS (fun _ h => h) (fun st o t hq => hq.2.2) (fun v st t H1 locs1 hq hH hS1 => ?_)
    obtain ⟨hv, ⟨u, hP1, hD1⟩, -⟩ := hq
    cases hv
    rw [jw_call] at hP1 hD1
    rw [hH] at hP1
    exact kk u H1 locs1 hP1 hD1 hS1
  rcases hlk with hl | hl
  · exact fin (va_runI (Ts := qgw) (As := as) (bytes := bt') (maxL := ml') ⟨hx, hb, hml, hown, hts⟩ hMt ⟨callB_of n hts (good_any hcode) rfl hrc hrs (hts _ hini) (hts _ hl) hd hR, hy, hts _ hin⟩ hpre rfl hn hls rfl hmr hdg ⟨hc2, hs2⟩)
  · exact fin (va_runIN (Ts := qgw) (As := as) (bytes := bt') (maxL := ml') ⟨hx, hb, hml, hown, hts⟩ hMt ⟨va_cnB n hts (good_any hcode) rfl hrc hrs (hG.2.1 _ hl) (hts _ hini) hd hR, hy, hts _ hin⟩ hpre rfl hn hls rfl hmr hdg ⟨hc2, hs2⟩)
def JQ (X : Cx) {T : Type} (base : Nat) (ws : va_W) (k a ci : Nat) (o : T → List Value) (mk : T → va_W) (below : List Frame) (args : Array Value) (s : State) (nc ns : Nat) : State → Prop :=
  MQ below (fun _ st oc t => oc = .returned none ∧ (∃ u : T, va_P (xD X) qcl (jw ws k (a, .inr (ci, o u)) (mk u)) t.heap ∧ va_D (jA base) (jw ws k (a, .inr (ci, o u)) (mk u))) ∧ va_F (jA base) st t) args s nc ns (jA base)
theorem CI_of {X : Cx} {T : Type} {base : Nat} {y : MethodName} {bt : ByteArray} {ml : Nat} {rm : Room} {ci : Nat} {d0 as : List Value} {nc ns : Nat} {o : T → List Value} {mk : T → va_W} (hpl : plainName y.cls = true) (hyn : y.name = "<init>")
    (body : ∀ (ws : va_W) (k a : Nat), k < ws.length → ∀ (p : Program) (e : Env) (s : State) (m : MethodId) (below : List Frame) (meth : Method) (c : Code), JC X base bt ml y.cls p s m (.ref a :: as).toArray meth c → va_P (xD X) qcl (jw ws k (a, .inr (ci, d0)) []) s.heap → va_D (jA base) (jw ws k (a, .inr (ci, d0)) []) →
      W p (xl X) e rm s m (.ref a :: as).toArray below meth c s.heap [] 0 0 (JQ X base ws k a ci o mk below (.ref a :: as).toArray s nc ns) (entryFrame m (.ref a :: as).toArray ml)) : CI X base y bt ml rm ci d0 as nc ns o mk := by
  intro ws k a hk
  refine Met.ofW (cc := bt) (maxL := ml) (ret := none) hpl rfl ?_
  intro p e s m args0 below meth c s₁ B hml hv
  obtain ⟨rfl, hG, hP, hD⟩ := hv
  have hts := atoms_spec (ws := Cond.code y bt ml none :: qgw) B.pre
  have hown : s.vm.findClass y.cls = some m.cls := findClass_of_methodNamed B.named
  have hin : meth.name = "<init>" := ((name_of_methodNamed B.named B.method).1).trans hyn
  exact body ws k a (List.getElem?_eq_some_iff.mp hk).1 p e s m below meth c ⟨B.exec, B.bytes, B.returns, hml, hown, fun w hw => hts w (List.mem_cons_of_mem _ hw), B.notSynchronized, hin, hG⟩ (by rw [jw_nil hk]; exact hP) (by rw [jw_nil hk]; exact hD)
theorem j_ret {X : Cx} {T : Type} {base : Nat} {bt : ByteArray} {ml : Nat} {own : String} {p : Program} {l0 : Launch} {e : Env} {R : Room} {s : State} {m : MethodId} {args : Array Value} {below : List Frame} {meth : Method} {c : Code} {H : Heap} {locs : List Loc} {nc ns pc : Nat} {ls : Array Slot} {ws : va_W} {k a ci : Nat} {o : T → List Value} {mk : T → va_W} (C : JC X base bt ml own p s m args meth c) (u : T) (hP : va_P (xD X) qcl (jw ws k (a, .inr (ci, o u)) (mk u)) H) (hD : va_D (jA base) (jw ws k (a, .inr (ci, o u)) (mk u))) (hS : va_S (jA base) s.heap H locs) (hdg : decode bt pc = .ok (.return_, 1)) : W p l0 e R s m args below meth c H locs nc ns (JQ X base ws k a ci o mk below args s nc ns) (F0 m pc ls []) := by
  obtain ⟨hx, hb, hr, hml, hown, hts, hlk, hin, hG⟩ := C
  exact W.vret hx hb hr (fun t ht hW => ⟨rfl, ⟨u, by rw [ht]; exact hP, hD⟩, hS.F ht⟩) hS.2.2 hdg
