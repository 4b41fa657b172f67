/-! making: rows for constructors. All that is made lies from base on. -/
abbrev jA (base : Nat) : Nat → Prop := fun q => base ≤ q
def JG (X : Cx) (base : Nat) (U : State) : Prop := va_K (xD X) qcl (qtys X) U ∧ (∀ w ∈ qNW, va_Nw w U) ∧ va_AO "ClayBoots$Shire" U ∧ base ≤ U.heap.size
theorem JG.move {X : Cx} {base : Nat} {s U : State} (hW : s.WarmedH U.vm) (hb : base ≤ U.heap.size) (h : JG X base s) : JG X base U := ⟨va_K.moved hW.alike h.1, fun w hw => qNW_warm hw hW (h.2.1 w hw), h.2.2.1.moved hW.alike, hb⟩
def JC (X : Cx) (base : Nat) (bt : ByteArray) (ml : Nat) (own : String) (p : Program) (s : State) (m : MethodId) (args : Array Value) (meth : Method) (c : Code) : Prop :=
  p.tables.exec = Jvm.exec ∧ c.code = bt ∧ meth.sig.returnType = none ∧ c.maxLocals = ml ∧ s.vm.findClass own = some m.cls ∧ (∀ w ∈ qgw, w.before args s = true) ∧ meth.locks = false ∧ meth.name = "<init>" ∧ JG X base s
def jw (ws : va_W) (k : Nat) (x : Nat × va_E) (l : va_W) : va_W := ws.set k x ++ l
theorem jw_at {ws : va_W} {k : Nat} {x : Nat × va_E} {l : va_W} (hk : k < ws.length) : (jw ws k x l)[k]? = some x := by
  unfold jw
  rw [List.getElem?_append_left (by rw [List.length_set]; exact hk), List.getElem?_set_self hk]
theorem jw_set {ws : va_W} {k : Nat} {x y : Nat × va_E} {l : va_W} (hk : k < ws.length) : (jw ws k x l).set k y = jw ws k y l := by
  unfold jw
  rw [List.set_append_left _ _ (by rw [List.length_set]; exact hk), List.set_set]
theorem jw_app {ws : va_W} {k : Nat} {x y : Nat × va_E} {l : va_W} : jw ws k x l ++ [y] = jw ws k x (l ++ [y]) := by
  unfold jw
  rw [List.append_assoc]
theorem jw_nil {ws : va_W} {k : Nat} {x : Nat × va_E} (h : ws[k]? = some x) : jw ws k x [] = ws := by
  unfold jw
  rw [List.append_nil]
  apply List.ext_getElem?
  intro i
  by_cases hi : k = i
  · subst hi
    rw [List.getElem?_set_self (List.getElem?_eq_some_iff.mp h).1, h]
  · rw [List.getElem?_set_ne hi]
theorem jw_len {ws : va_W} {k : Nat} {x : Nat × va_E} {l : va_W} : (jw ws k x l).length = ws.length + l.length := by
  unfold jw
  rw [List.length_append, List.length_set]
theorem jw_in {ws : va_W} {k : Nat} {x y : Nat × va_E} {l l2 : va_W} : (jw ws k x (l ++ y :: l2))[ws.length + l.length]? = some y := by
  unfold jw
  rw [List.getElem?_append_right (by rw [List.length_set]; omega), List.length_set, show ws.length + l.length - ws.length = l.length by omega, List.getElem?_append_right (Nat.le_refl _), Nat.sub_self]
  rfl
theorem jw_call {ws : va_W} {k : Nat} {x y z : Nat × va_E} {l mk : va_W} : jw (jw ws k x (l ++ [y])) (ws.length + l.length) z mk = jw ws k x (l ++ z :: mk) := by
  unfold jw
  rw [List.set_append_right _ _ (by rw [List.length_set]; omega), List.length_set, show ws.length + l.length - ws.length = l.length by omega, List.set_append_right _ _ (Nat.le_refl _), Nat.sub_self, List.append_assoc, List.append_assoc]
  rfl
def jar (X : Cx) (n : Nat) : va_E := .inl (xc X 0, n, .inl (fun _ => 0))
def jaz (X : Cx) (n : Nat) : va_E := .inl (xc X 1, n, .inl (fun _ => 0))
def jaj (X : Cx) (n : Nat) : va_E := .inl (xc X 2, n, .inr (.inl (fun _ => 0)))
def jas (X : Cx) (n : Nat) (f : Nat → Option Nat) : va_E := .inl (xc X 3, n, .inr (.inr (.inr (.inr f))))
section JR
variable {X : Cx} {base : Nat} {bt : ByteArray} {ml : Nat} {own : String} {p : Program} {l0 : Launch} {e : Env} {R : Room} {s : State} {m : MethodId} {args : Array Value} {below : List Frame} {meth : Method} {c : Code} {H : Heap} {locs : List Loc} {cells slots cells' slots' : Nat} {Q : State → Prop} {pc : Nat} {ls : Array Slot} {rest : List Value} {ws l : va_W} {k : Nat} {x : Nat × va_E}
theorem j_newa (C : JC X base bt ml own p s m args meth c) (hP : va_P (xD X) qcl (jw ws k x l) H) (hD : va_D (jA base) (jw ws k x l)) (hS : va_S (jA base) s.heap H locs) {atype : ArrayType} {ty : FieldType} (hty : newarray.typeOf atype = ty) (t0 : Nat) {cT : ClassId} (ht : (qtys X)[t0]? = some (cT, ty)) (hRA : ∀ (U : State) (cA : ClassId), va_RA U cA ty → U.vm.findClass ("[" ++ ty.toString) = some cA) (harr : Cond.arrayClass ty ∈ qgw)
    {a0 : vp_A} {n : Int32} {N : Nat} (ha : ∀ cA : ClassId, vp_cell cA a0 = arrV cA N (fun _ => defaultValue ty)) (hn : ¬ n < 0) (hN : n.toNatClampNeg = N) (hby : N * componentBytes ty ≤ 536870912) (hc : cells + 1 = cells') (hs : slots + N = slots') (hc2 : cells' ≤ R.cells) (hs2 : slots' ≤ R.slots) (hdg : decode bt pc = .ok (.newarray atype, 2))
    (kk : ∀ (q : Nat) (H1 : Heap), va_P (xD X) qcl (jw ws k x (l ++ [(q, .inl (cT, a0))])) H1 → va_D (jA base) (jw ws k x (l ++ [(q, .inl (cT, a0))])) → va_S (jA base) s.heap H1 locs → W p l0 e R s m args below meth c H1 locs cells' slots' Q (F0 m (pc + 2) ls (.ref q :: rest))) : W p l0 e R s m args below meth c H locs cells slots Q (F0 m pc ls (.int n :: rest)) := by
  obtain ⟨hx, hb, hr, hml, hown, hts, hlk, hin, hK, hNw, hAO, hbs⟩ := C
  subst hty hc hs
  refine va_newa hx hb (hts _ harr) rfl hK hP hD hS (fun q hq => Nat.le_trans hbs hq) ha hn hN hby hc2 hs2 hdg (fun q cA H1 hK1 hP1 hD1 hS1 => ?_)
  have h1 := hRA s cT (hK.2 t0 _ ht).2
  have h2 := hRA s cA (hK1.2 4 _ rfl).2
  have h3 : cA = cT := Option.some.inj (h2.symm.trans h1)
  subst h3
  rw [jw_app] at hP1 hD1
  exact kk q H1 hP1 hD1 hS1
theorem j_newI (C : JC X base bt ml own p s m args meth c) (hP : va_P (xD X) qcl (jw ws k x l) H) (hD : va_D (jA base) (jw ws k x l)) (hS : va_S (jA base) s.heap H locs) {n : Int32} (N : Nat) (hn : ¬ n < 0) (hN : n.toNatClampNeg = N) (hby : N * 4 ≤ 536870912) (hc : cells + 1 = cells') (hs : slots + N = slots') (hc2 : cells' ≤ R.cells) (hs2 : slots' ≤ R.slots) (hdg : decode bt pc = .ok (.newarray .int, 2))
    (kk : ∀ (q : Nat) (H1 : Heap), va_P (xD X) qcl (jw ws k x (l ++ [(q, jar X N)])) H1 → va_D (jA base) (jw ws k x (l ++ [(q, jar X N)])) → va_S (jA base) s.heap H1 locs → W p l0 e R s m args below meth c H1 locs cells' slots' Q (F0 m (pc + 2) ls (.ref q :: rest))) : W p l0 e R s m args below meth c H locs cells slots Q (F0 m pc ls (.int n :: rest)) :=
  j_newa C hP hD hS (ty := .int) rfl 0 rfl (fun _ _ h => h) (qgw_of (i := 162) rfl rfl) (a0 := (N, .inl (fun _ => 0))) (fun _ => rfl) hn hN hby hc hs hc2 hs2 hdg kk
theorem j_newZ (C : JC X base bt ml own p s m args meth c) (hP : va_P (xD X) qcl (jw ws k x l) H) (hD : va_D (jA base) (jw ws k x l)) (hS : va_S (jA base) s.heap H locs) {n : Int32} (N : Nat) (hn : ¬ n < 0) (hN : n.toNatClampNeg = N) (hby : N * 1 ≤ 536870912) (hc : cells + 1 = cells') (hs : slots + N = slots') (hc2 : cells' ≤ R.cells) (hs2 : slots' ≤ R.slots) (hdg : decode bt pc = .ok (.newarray .boolean, 2))
    (kk : ∀ (q : Nat) (H1 : Heap), va_P (xD X) qcl (jw ws k x (l ++ [(q, jaz X N)])) H1 → va_D (jA base) (jw ws k x (l ++ [(q, jaz X N)])) → va_S (jA base) s.heap H1 locs → W p l0 e R s m args below meth c H1 locs cells' slots' Q (F0 m (pc + 2) ls (.ref q :: rest))) : W p l0 e R s m args below meth c H locs cells slots Q (F0 m pc ls (.int n :: rest)) :=
  j_newa C hP hD hS (ty := .boolean) rfl 1 rfl (fun _ _ h => h) (qgw_of (i := 359) rfl rfl) (a0 := (N, .inl (fun _ => 0))) (fun _ => rfl) hn hN hby hc hs hc2 hs2 hdg kk
set_option maxRecDepth 100000 in
theorem j_newJ (C : JC X base bt ml own p s m args meth c) (hP : va_P (xD X) qcl (jw ws k x l) H) (hD : va_D (jA base) (jw ws k x l)) (hS : va_S (jA base) s.heap H locs) {n : Int32} (N : Nat) (hn : ¬ n < 0) (hN : n.toNatClampNeg = N) (hby : N * 8 ≤ 536870912) (hc : cells + 1 = cells') (hs : slots + N = slots') (hc2 : cells' ≤ R.cells) (hs2 : slots' ≤ R.slots) (hdg : decode bt pc = .ok (.newarray .long, 2))
    (kk : ∀ (q : Nat) (H1 : Heap), va_P (xD X) qcl (jw ws k x (l ++ [(q, jaj X N)])) H1 → va_D (jA base) (jw ws k x (l ++ [(q, jaj X N)])) → va_S (jA base) s.heap H1 locs → W p l0 e R s m args below meth c H1 locs cells' slots' Q (F0 m (pc + 2) ls (.ref q :: rest))) : W p l0 e R s m args below meth c H locs cells slots Q (F0 m pc ls (.int n :: rest)) :=
  j_newa C hP hD hS (ty := .long) rfl 2 rfl (fun _ _ h => h) (qgw_of (i := 1425) rfl rfl) (a0 := (N, .inr (.inl (fun _ => 0)))) (fun _ => rfl) hn hN hby hc hs hc2 hs2 hdg kk
theorem j_newS (C : JC X base bt ml own p s m args meth c) (hP : va_P (xD X) qcl (jw ws k x l) H) (hD : va_D (jA base) (jw ws k x l)) (hS : va_S (jA base) s.heap H locs) {index : Nat} (hcl : Cond.classLink own index "ClayBoots$Shire" ∈ qgw) {n : Int32} (N : Nat) (hn : ¬ n < 0) (hN : n.toNatClampNeg = N) (hby : N * 4 ≤ 536870912) (hc : cells + 1 = cells') (hs : slots + N = slots') (hc2 : cells' ≤ R.cells) (hs2 : slots' ≤ R.slots) (hdg : decode bt pc = .ok (.anewarray index, 3))
    (kk : ∀ (q : Nat) (H1 : Heap), va_P (xD X) qcl (jw ws k x (l ++ [(q, jas X N (fun _ => none))])) H1 → va_D (jA base) (jw ws k x (l ++ [(q, jas X N (fun _ => none))])) → va_S (jA base) s.heap H1 locs → W p l0 e R s m args below meth c H1 locs cells' slots' Q (F0 m (pc + 3) ls (.ref q :: rest))) : W p l0 e R s m args below meth c H locs cells slots Q (F0 m pc ls (.int n :: rest)) := by
  obtain ⟨hx, hb, hr, hml, hown, hts, hlk, hin, hK, hNw, hAO, hbs⟩ := C
  subst hc hs
  refine va_newq hx hb hown (hts _ hcl) hAO hK hP hD hS (fun q hq => Nat.le_trans hbs hq) hn hN hby hc2 hs2 hdg (fun q cA H1 hK1 hP1 hD1 hS1 => ?_)
  obtain ⟨kA, comp, -, -, -, h1⟩ := (hK.2 3 (xc X 3, .object "ClayBoots$Shire") rfl).2
  obtain ⟨kB, comp2, -, -, -, h2⟩ := (hK1.2 4 (cA, .object "ClayBoots$Shire") rfl).2
  have h3 : cA = xc X 3 := Option.some.inj (h2.symm.trans h1)
  subst h3
  rw [jw_app] at hP1 hD1
  exact kk q H1 hP1 hD1 hS1
def qdf (ci : Nat) : List Value := (List.range (qN ci)).map (fun j => defaultValue (qty ci j))
theorem qdf_at {ci : Nat} : ∀ j, j < qN ci → defaultValue (qty ci j) = vp_V (qdf ci) j := fun j hj => by
  unfold vp_V qdf
  rw [List.getD_eq_getElem?_getD, List.getElem?_map, List.getElem?_range hj]
  rfl
theorem j_newc (C : JC X base bt ml own p s m args meth c) (hP : va_P (xD X) qcl (jw ws k x l) H) (hD : va_D (jA base) (jw ws k x l)) (hS : va_S (jA base) s.heap H locs) (ci n0 : Nat) {index : Nat} {d : List Value} (hci : ci < 12) (hn0 : qN ci = n0) (hd : qdf ci = d) (hcl : Cond.classLink own index (qcn ci) ∈ qgw) (hins : Cond.instantiable (qcn ci) n0 ∈ qgw) (hini : Cond.initialized (qcn ci) ∈ qgw) (hc : cells + 1 = cells') (hs : slots + n0 = slots') (hc2 : cells' ≤ R.cells) (hs2 : slots' ≤ R.slots) (hdg : decode bt pc = .ok (.new index, 3))
    (kk : ∀ (q : Nat) (H1 : Heap), va_P (xD X) qcl (jw ws k x (l ++ [(q, .inr (ci, d))])) H1 → va_D (jA base) (jw ws k x (l ++ [(q, .inr (ci, d))])) → va_S (jA base) s.heap H1 locs → W p l0 e R s m args below meth c H1 locs cells' slots' Q (F0 m (pc + 3) ls (.ref q :: rest))) : W p l0 e R s m args below meth c H locs cells slots Q (F0 m pc ls rest) := by
  obtain ⟨hx, hb, hr, hml, hown, hts, hlk, hin, hK, hNw, hAO, hbs⟩ := C
  subst hc hn0 hs hd
  refine va_new hx hb hts (qLW_in hci) (qty ci) (qty_in hci) hown (hts _ hcl) (hts _ hins) (hts _ hini) hK hP hD hS (fun q hq => Nat.le_trans hbs hq) (qcl_at hci) qdf_at hc2 hs2 hdg (fun q H1 hP1 hD1 hS1 => ?_)
  rw [jw_app] at hP1 hD1
  exact kk q H1 hP1 hD1 hS1
theorem j_put {a ci : Nat} {fs fs' : List Value} (C : JC X base bt ml own p s m args meth c) (hP : va_P (xD X) qcl (jw ws k (a, .inr (ci, fs)) l) H) (hD : va_D (jA base) (jw ws k (a, .inr (ci, fs)) l)) (hS : va_S (jA base) s.heap H locs) (hk : k < ws.length) (j : Nat) {v : Value} {index : Nat} (hci : ci < 12) (hj : j < qN ci) (hfl : Cond.fieldLink own index (qcn ci) (qT ci j).2.1 (qT ci j).2.2.1 ∈ qgw) (hT1 : (qT ci j).1 = qcn ci) (ho : qcn ci = own) (hn : narrow (qty ci j) v = v) (hfit : fits (qty ci j) v = true) (hl : j < fs.length) (hfs : fs.set j v = fs') (hdg : decode bt pc = .ok (.putfield index, 3))
    (kk : ∀ (H1 : Heap) (locs1 : List Loc), va_P (xD X) qcl (jw ws k (a, .inr (ci, fs')) l) H1 → va_D (jA base) (jw ws k (a, .inr (ci, fs')) l) → va_S (jA base) s.heap H1 locs1 → W p l0 e R s m args below meth c H1 locs1 cells slots Q (F0 m (pc + 3) ls rest)) : W p l0 e R s m args below meth c H locs cells slots Q (F0 m pc ls (v :: .ref a :: rest)) := by
  obtain ⟨hx, hb, hr, hml, hown, hts, hlk, hin, hK, hNw, hAO, hbs⟩ := C
  subst hfs
  cases hfin : (qT ci j).2.2.2 with
  | false =>
    refine va_put hx hb hts (qLW_in hci) (qty ci) (qty_in hci) (qnm_in hci) hown hK hP hD hS k (jw_at hk) (qcl_at hci) j hj (hts _ hfl) (fun y hy => by rw [← hT1]; exact hy) hfin (qty_in hci j hj) hn hfit hl hdg (fun H1 locs1 hP1 hD1 hS1 => ?_)
    rw [jw_set hk] at hP1 hD1
    exact kk H1 locs1 hP1 hD1 hS1
  | true =>
    refine va_putF hx hb hts (qLW_in hci) (qty ci) (qty_in hci) (qnm_in hci) hown hK hP hD hS k (jw_at hk) (qcl_at hci) j hj (hts _ hfl) (fun y hy => by rw [← hT1]; exact hy) hfin hin (hT1.trans ho) (qty_in hci j hj) hn hfit hl hdg (fun H1 locs1 hP1 hD1 hS1 => ?_)
    rw [jw_set hk] at hP1 hD1
    exact kk H1 locs1 hP1 hD1 hS1
theorem j_get {a ci : Nat} {fs : List Value} (C : JC X base bt ml own p s m args meth c) (hP : va_P (xD X) qcl (jw ws k (a, .inr (ci, fs)) l) H) (hk : k < ws.length) (j : Nat) {v : Value} {index : Nat} (hci : ci < 12) (hj : j < qN ci) (hfl : Cond.fieldLink own index (qcn ci) (qT ci j).2.1 (qT ci j).2.2.1 ∈ qgw) (hT1 : (qT ci j).1 = qcn ci) (hv : fs[j]? = some v) (hdg : decode bt pc = .ok (.getfield index, 3))
    (kk : W p l0 e R s m args below meth c H locs cells slots Q (F0 m (pc + 3) ls (v :: rest))) : W p l0 e R s m args below meth c H locs cells slots Q (F0 m pc ls (.ref a :: rest)) := by
  obtain ⟨hx, hb, hr, hml, hown, hts, hlk, hin, hK, hNw, hAO, hbs⟩ := C
  exact va_get hx hb hts (qLW_in hci) hown hK hP k (jw_at hk) (qcl_at hci) j hj (hts _ hfl) (fun y hy => by rw [← hT1]; exact hy) hv hdg kk
theorem j_obj {a : Nat} (C : JC X base bt ml own p s m args meth c) (hls : ls.size = ml) {idx : Nat} (hl : Cond.methodLink own idx Lib.objectInit ∈ qgw) (hf : 1 ≤ R.frames) (hlo : 12 ≤ R.locals) (hdg : decode bt pc = .ok (.invokespecial idx, 3))
    (kk : W p l0 e R s m args below meth c H locs cells slots Q (F0 m (pc + 3) ls [])) : W p l0 e R s m args below meth c H locs cells slots Q (F0 m pc ls [.ref a]) := by
  obtain ⟨hx, hb, hr, hml, hown, hts, hlk, hin, hK, hNw, hAO, hbs⟩ := C
  refine W.objInit hx hb hown (hts _ hl) (hts _ (qgw_of (i := 139) rfl rfl)) (hts _ (qgw_of (i := 140) rfl rfl)) rfl (by rw [hml]; exact hls) rfl hdg hf (by simpa [JFrame.monitorRoom] using hlo) ?_
  exact W.eq (g2 := F0 m (pc + 3) ls []) rfl kk
end JR
/-- a constructor: from an object that lies there blank, among ws, to what it makes -/
def CI (X : Cx) {T : Type} (base : Nat) (y : MethodName) (bt : ByteArray) (ml : Nat) (rm : Room) (ci : Nat) (d0 as : List Value) (nc ns : Nat) (o : T → List Value) (mk : T → va_W) : Prop :=
  ∀ (ws : va_W) (k a : Nat), ws[k]? = some (a, .inr (ci, d0)) → Met (xl X) y (Cond.code y bt ml none :: qgw) rm (va_Pc (.ref a :: as) (fun U => JG X base U ∧ va_P (xD X) qcl ws U.heap ∧ va_D (jA base) ws))
    (fun _ st oc t => oc = .returned none ∧ (∃ u : T, va_P (xD X) qcl (jw ws k (a, .inr (ci, o u)) (mk u)) t.heap ∧ va_D (jA base) (jw ws k (a, .inr (ci, o u)) (mk u))) ∧ va_F (jA base) st t) nc ns (jA base)
