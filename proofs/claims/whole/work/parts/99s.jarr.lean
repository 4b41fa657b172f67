/-! making: stores into rows just made; the greater of two -/
theorem jw_l {ws : va_W} {k : Nat} {x : Nat × va_E} {l : va_W} {t : Nat} : (jw ws k x l)[ws.length + t]? = l[t]? := by
  unfold jw
  rw [List.getElem?_append_right (by rw [List.length_set]; omega), List.length_set, show ws.length + t - ws.length = t by omega]
theorem jw_lset {ws : va_W} {k : Nat} {x y : Nat × va_E} {l : va_W} {t : Nat} : (jw ws k x l).set (ws.length + t) y = jw ws k x (l.set t y) := by
  unfold jw
  rw [List.set_append_right _ _ (by rw [List.length_set]; omega), List.length_set, show ws.length + t - ws.length = t by omega]
section JR2
variable {X : Cx} {base : Nat} {bt : ByteArray} {ml : Nat} {own : String} {p : Program} {l0 : Launch} {e : Env} {R : Room} {s : State} {m : MethodId} {args : Array Value} {below : List Frame} {meth : Method} {c : Code} {H : Heap} {locs : List Loc} {cells slots cells' slots' : Nat} {Q : State → Prop} {pc : Nat} {ls : Array Slot} {rest : List Value} {ws l : va_W} {k : Nat} {x : Nat × va_E}
theorem j_iast (C : JC X base bt ml own p s m args meth c) (hP : va_P (xD X) qcl (jw ws k x l) H) (hD : va_D (jA base) (jw ws k x l)) (hS : va_S (jA base) s.heap H locs) {q N : Nat} {f : Nat → Int32} (t : Nat) (ht : l[t]? = some (q, .inl (xc X 0, N, .inl f))) {i v : Int32} (hin : vp_in i N) (hdg : decode bt pc = .ok (.iastore, 1))
    (kk : ∀ (H1 : Heap) (locs1 : List Loc), va_P (xD X) qcl (jw ws k x (l.set t (q, .inl (xc X 0, N, .inl (upd f i.toNatClampNeg v))))) H1 → va_D (jA base) (jw ws k x (l.set t (q, .inl (xc X 0, N, .inl (upd f i.toNatClampNeg v))))) → va_S (jA base) s.heap H1 locs1 → W p l0 e R s m args below meth c H1 locs1 cells slots Q (F0 m (pc + 1) ls rest)) : W p l0 e R s m args below meth c H locs cells slots Q (F0 m pc ls (.int v :: .int i :: .ref q :: rest)) := by
  obtain ⟨hx, hb, hr, hml, hown, hts, hlk, hin2, hK, hNw, hAO, hbs⟩ := C
  refine va_iast hx hb hK hP hD hS (ws.length + t) 0 (by rw [jw_l]; exact ht) rfl hin hdg (fun H1 locs1 hP1 hD1 hS1 => ?_)
  rw [jw_lset] at hP1 hD1
  exact kk H1 locs1 hP1 hD1 hS1
theorem j_aast (C : JC X base bt ml own p s m args meth c) (hP : va_P (xD X) qcl (jw ws k x l) H) (hD : va_D (jA base) (jw ws k x l)) (hS : va_S (jA base) s.heap H locs) {q N v : Nat} {f : Nat → Option Nat} {vs : List Value} (t t2 : Nat) (ht : l[t]? = some (q, jas X N f)) (hv : l[t2]? = some (v, .inr (6, vs))) {i : Int32} (hin : vp_in i N) (hdg : decode bt pc = .ok (.aastore, 1))
    (kk : ∀ (H1 : Heap) (locs1 : List Loc), va_P (xD X) qcl (jw ws k x (l.set t (q, jas X N (va_up f i.toNatClampNeg (some v))))) H1 → va_D (jA base) (jw ws k x (l.set t (q, jas X N (va_up f i.toNatClampNeg (some v))))) → va_S (jA base) s.heap H1 locs1 → W p l0 e R s m args below meth c H1 locs1 cells slots Q (F0 m (pc + 1) ls rest)) : W p l0 e R s m args below meth c H locs cells slots Q (F0 m pc ls (.ref v :: .int i :: .ref q :: rest)) := by
  obtain ⟨hx, hb, hr, hml, hown, hts, hlk, hin2, hK, hNw, hAO, hbs⟩ := C
  refine va_astq hx hb hK hP hD hS (ws.length + t) 3 (ws.length + t2) 6 (by rw [jw_l]; exact ht) (r := (qcn 6, qT 6, qN 6)) rfl (by rw [jw_l]; exact hv) (qcl_at (by decide)) hin hdg (fun H1 locs1 hP1 hD1 hS1 => ?_)
  have e1 := jw_lset (ws := ws) (k := k) (x := x) (l := l) (t := t) (y := (q, jas X N (va_up f i.toNatClampNeg (some v))))
  unfold jas at e1
  rw [e1] at hP1 hD1
  exact kk H1 locs1 hP1 hD1 hS1
theorem j_max (C : JC X base bt ml own p s m args meth c) (hls : ls.size = ml) {index : Nat} (hl : Cond.methodLink own index Lib.Math.max.name ∈ qgw) (hf : 1 ≤ R.frames) (hlo : (rest.map fun v => v.category).sum + 13 ≤ R.locals) (hc : cells ≤ R.cells) (hs : slots ≤ R.slots) {a b : Int32} (hdg : decode bt pc = .ok (.invokestatic index, 3))
    (kk : W p l0 e R s m args below meth c H locs cells slots Q (F0 m (pc + 3) ls (.int (if a < b then b else a) :: rest))) : W p l0 e R s m args below meth c H locs cells slots Q (F0 m pc ls (.int b :: .int a :: rest)) := by
  obtain ⟨hx, hb, hr, hml, hown, hts, hlk, hin, hG⟩ := C
  exact va_mmax hx hb (by rw [hml, hls]) hown (hts _ hl) (hts _ (qgw_of primW.1 rfl)) (hts _ (qgw_of primW.2.2.2.2.2.2.2.2.1 rfl)) (hts _ (qgw_of primW.2.1 rfl)) hf hlo hc hs hdg kk
end JR2
