/-! layNone: the model's first row -/
def lnA (i : Nat) : Nat → Int32 := fun j => if 479 ≤ j ∧ j < 479 + i then -1 else 0
def lnB (i : Nat) : Nat → Int32 := fun j => if 479 ≤ j ∧ j < 543 then -1 else if 549 ≤ j ∧ j < 549 + i then iN (j - 549) else 0
theorem lnA_s {i : Nat} : upd (lnA i) (479 + i) (-1) = lnA (i + 1) := by
  funext j
  unfold upd lnA
  by_cases h : j = 479 + i
  · rw [if_pos h, if_pos (by omega)]
  · rw [if_neg h]
    by_cases h2 : 479 ≤ j ∧ j < 479 + i
    · rw [if_pos h2, if_pos (by omega)]
    · rw [if_neg h2, if_neg (by omega)]
theorem lnB_s {i : Nat} : upd (lnB i) (549 + i) (iN i) = lnB (i + 1) := by
  funext j
  unfold upd lnB
  by_cases h : j = 549 + i
  · rw [if_pos h, if_neg (by omega), if_pos (by omega), show j - 549 = i by omega]
  · rw [if_neg h]
    by_cases h2 : 479 ≤ j ∧ j < 543
    · rw [if_pos h2, if_pos h2]
    · rw [if_neg h2, if_neg h2]
      by_cases h3 : 549 ≤ j ∧ j < 549 + i
      · rw [if_pos h3, if_pos (by omega)]
      · rw [if_neg h3, if_neg (by omega)]
theorem lnA_0 : lnA 0 = fun _ => 0 := by
  funext j
  unfold lnA
  rw [if_neg (by omega)]
theorem lnB_0 : lnB 0 = lnA 64 := by
  funext j
  unfold lnA lnB
  by_cases h : 479 ≤ j ∧ j < 543
  · rw [if_pos h, if_pos (by omega)]
  · rw [if_neg h, if_neg (by omega), if_neg (by omega)]
section LN
variable {X : Cx} {base : Nat} {p : Program} {l0 : Launch} {e : Env} {R : Room} {s : State} {m : MethodId} {args : Array Value} {below : List Frame} {meth : Method} {c : Code} {cells slots : Nat} {Q : State → Prop} {ws : va_W} {k a : Nat}
theorem ln_iast (hx : p.tables.exec = Jvm.exec) (hb : c.code = prog_13_method_2_code) (hK : va_K (xD X) qcl (qtys X) s) {H : Heap} {locs : List Loc} {ls : Array Slot} {rest : List Value} {pc : Nat} {f : Nat → Int32} (hk : k < ws.length) (hP : va_P (xD X) qcl (ws.set k (a, .inl (xc X 0, 2129, .inl f))) H) (hD : va_D (jA base) (ws.set k (a, .inl (xc X 0, 2129, .inl f)))) (hS : va_S (jA base) s.heap H locs) {n : Nat} {i v : Int32} (hi : i = iN n) (hn : n < 2129) (hdg : decode prog_13_method_2_code pc = .ok (.iastore, 1))
    (kk : ∀ (H1 : Heap) (locs1 : List Loc), va_P (xD X) qcl (ws.set k (a, .inl (xc X 0, 2129, .inl (upd f n v)))) H1 → va_D (jA base) (ws.set k (a, .inl (xc X 0, 2129, .inl (upd f n v)))) → va_S (jA base) s.heap H1 locs1 → W p l0 e R s m args below meth c H1 locs1 cells slots Q (F0 m (pc + 1) ls rest)) : W p l0 e R s m args below meth c H locs cells slots Q (F0 m pc ls (.int v :: .int i :: .ref a :: rest)) := by
  subst hi
  refine va_iast hx hb hK hP hD hS k 0 (List.getElem?_set_self hk) rfl (inb_of hn (by decide)) hdg (fun H1 locs1 hP1 hD1 hS1 => ?_)
  have e1 : (iN n).toNatClampNeg = n := ix_of (by omega)
  rw [List.set_set, e1] at hP1 hD1
  exact kk H1 locs1 hP1 hD1 hS1
theorem ln_loop1 (hx : p.tables.exec = Jvm.exec) (hb : c.code = prog_13_method_2_code) (hK : va_K (xD X) qcl (qtys X) s) (hk : k < ws.length)
    (fin : ∀ (H : Heap) (locs : List Loc) (ls : Array Slot), lv_has ls 2 [(1, .int 64), (0, .ref a)] → va_P (xD X) qcl (ws.set k (a, .inl (xc X 0, 2129, .inl (lnA 64)))) H → va_D (jA base) (ws.set k (a, .inl (xc X 0, 2129, .inl (lnA 64)))) → va_S (jA base) s.heap H locs → W p l0 e R s m args below meth c H locs cells slots Q (F0 m 22 ls [])) :
    ∀ (n i : Nat), i + n = 64 → ∀ (H : Heap) (locs : List Loc) (ls : Array Slot), lv_has ls 2 [(1, .int (iN i)), (0, .ref a)] → va_P (xD X) qcl (ws.set k (a, .inl (xc X 0, 2129, .inl (lnA i)))) H → va_D (jA base) (ws.set k (a, .inl (xc X 0, 2129, .inl (lnA i)))) → va_S (jA base) s.heap H locs → W p l0 e R s m args below meth c H locs cells slots Q (F0 m 2 ls [])
  | 0, i, hi, H, locs, ls, hl, hP, hD, hS => by
    have hi : i = 64 := by omega
    subst hi
    refine lv_iload_n hx hb (show decode prog_13_method_2_code 2 = .ok (.iload_n 1, 1) from by decide +kernel) rfl (lv_at hl 0 rfl) ?_
    refine lv_bipush (v := 64) hx hb (show decode prog_13_method_2_code 3 = .ok (.bipush 64, 2) from by decide +kernel) (by decide) ?_
    refine lv_icmp_ge (tgt := 22) hx hb (show decode prog_13_method_2_code 5 = .ok (.if_icmp .ge 17, 3) from by decide +kernel) (by decide) (fun _ => ?_) (fun hz => absurd (by decide) hz)
    exact fin H locs ls hl hP hD hS
  | n + 1, i, hi, H, locs, ls, hl, hP, hD, hS => by
    refine lv_iload_n hx hb (show decode prog_13_method_2_code 2 = .ok (.iload_n 1, 1) from by decide +kernel) rfl (lv_at hl 0 rfl) ?_
    refine lv_bipush (v := 64) hx hb (show decode prog_13_method_2_code 3 = .ok (.bipush 64, 2) from by decide +kernel) (by decide) ?_
    refine lv_icmp_ge (tgt := 22) hx hb (show decode prog_13_method_2_code 5 = .ok (.if_icmp .ge 17, 3) from by decide +kernel) (by decide) (fun hz => absurd hz ?_) (fun _ => ?_)
    · rw [show (64 : Int32) = iN 64 from rfl, iN_le (by decide) (by omega)]
      omega
    refine lv_aload_n hx hb (show decode prog_13_method_2_code 8 = .ok (.aload_n 0, 1) from by decide +kernel) rfl (lv_at hl 1 rfl) ?_
    refine lv_sipush (v := 479) hx hb (show decode prog_13_method_2_code 9 = .ok (.sipush 479, 3) from by decide +kernel) (by decide) ?_
    refine lv_iload_n hx hb (show decode prog_13_method_2_code 12 = .ok (.iload_n 1, 1) from by decide +kernel) rfl (lv_at hl 0 rfl) ?_
    refine lv_iadd hx hb (show decode prog_13_method_2_code 13 = .ok (.iadd, 1) from by decide +kernel) ?_
    refine lv_iconst (v := (-1)) hx hb (show decode prog_13_method_2_code 14 = .ok (.iconst (-1), 1) from by decide +kernel) (by decide) ?_
    refine ln_iast hx hb hK hk hP hD hS (n := 479 + i) (iN_add 479 i) (by omega) (show decode prog_13_method_2_code 15 = .ok (.iastore, 1) from by decide +kernel) (fun H locs hP hD hS => ?_)
    rw [lnA_s] at hP hD
    refine lv_iinc (k := 0) (v := iN (i + 1)) (lv' := [(1, .int (iN (i + 1))), (0, .ref a)]) hx hb (show decode prog_13_method_2_code 16 = .ok (.iinc 1 1, 3) from by decide +kernel) hl rfl (iN_step i) (by decide) rfl (fun ls hl => ?_)
    refine lv_goto (tgt := 2) hx hb (show decode prog_13_method_2_code 19 = .ok (.goto (-17), 3) from by decide +kernel) (by decide) ?_
    exact ln_loop1 hx hb hK hk fin n (i + 1) (by omega) H locs ls hl hP hD hS
theorem ln_loop2 (hx : p.tables.exec = Jvm.exec) (hb : c.code = prog_13_method_2_code) (hK : va_K (xD X) qcl (qtys X) s) (hk : k < ws.length)
    (fin : ∀ (H : Heap) (locs : List Loc) (ls : Array Slot), lv_has ls 2 [(1, .int 8), (0, .ref a)] → va_P (xD X) qcl (ws.set k (a, .inl (xc X 0, 2129, .inl (lnB 8)))) H → va_D (jA base) (ws.set k (a, .inl (xc X 0, 2129, .inl (lnB 8)))) → va_S (jA base) s.heap H locs → W p l0 e R s m args below meth c H locs cells slots Q (F0 m 44 ls [])) :
    ∀ (n i : Nat), i + n = 8 → ∀ (H : Heap) (locs : List Loc) (ls : Array Slot), lv_has ls 2 [(1, .int (iN i)), (0, .ref a)] → va_P (xD X) qcl (ws.set k (a, .inl (xc X 0, 2129, .inl (lnB i)))) H → va_D (jA base) (ws.set k (a, .inl (xc X 0, 2129, .inl (lnB i)))) → va_S (jA base) s.heap H locs → W p l0 e R s m args below meth c H locs cells slots Q (F0 m 24 ls [])
  | 0, i, hi, H, locs, ls, hl, hP, hD, hS => by
    have hi : i = 8 := by omega
    subst hi
    refine lv_iload_n hx hb (show decode prog_13_method_2_code 24 = .ok (.iload_n 1, 1) from by decide +kernel) rfl (lv_at hl 0 rfl) ?_
    refine lv_bipush (v := 8) hx hb (show decode prog_13_method_2_code 25 = .ok (.bipush 8, 2) from by decide +kernel) (by decide) ?_
    refine lv_icmp_ge (tgt := 44) hx hb (show decode prog_13_method_2_code 27 = .ok (.if_icmp .ge 17, 3) from by decide +kernel) (by decide) (fun _ => ?_) (fun hz => absurd (by decide) hz)
    exact fin H locs ls hl hP hD hS
  | n + 1, i, hi, H, locs, ls, hl, hP, hD, hS => by
    refine lv_iload_n hx hb (show decode prog_13_method_2_code 24 = .ok (.iload_n 1, 1) from by decide +kernel) rfl (lv_at hl 0 rfl) ?_
    refine lv_bipush (v := 8) hx hb (show decode prog_13_method_2_code 25 = .ok (.bipush 8, 2) from by decide +kernel) (by decide) ?_
    refine lv_icmp_ge (tgt := 44) hx hb (show decode prog_13_method_2_code 27 = .ok (.if_icmp .ge 17, 3) from by decide +kernel) (by decide) (fun hz => absurd hz ?_) (fun _ => ?_)
    · rw [show (8 : Int32) = iN 8 from rfl, iN_le (by decide) (by omega)]
      omega
    refine lv_aload_n hx hb (show decode prog_13_method_2_code 30 = .ok (.aload_n 0, 1) from by decide +kernel) rfl (lv_at hl 1 rfl) ?_
    refine lv_sipush (v := 549) hx hb (show decode prog_13_method_2_code 31 = .ok (.sipush 549, 3) from by decide +kernel) (by decide) ?_
    refine lv_iload_n hx hb (show decode prog_13_method_2_code 34 = .ok (.iload_n 1, 1) from by decide +kernel) rfl (lv_at hl 0 rfl) ?_
    refine lv_iadd hx hb (show decode prog_13_method_2_code 35 = .ok (.iadd, 1) from by decide +kernel) ?_
    refine lv_iload_n hx hb (show decode prog_13_method_2_code 36 = .ok (.iload_n 1, 1) from by decide +kernel) rfl (lv_at hl 0 rfl) ?_
    refine ln_iast hx hb hK hk hP hD hS (n := 549 + i) (iN_add 549 i) (by omega) (show decode prog_13_method_2_code 37 = .ok (.iastore, 1) from by decide +kernel) (fun H locs hP hD hS => ?_)
    rw [lnB_s] at hP hD
    refine lv_iinc (k := 0) (v := iN (i + 1)) (lv' := [(1, .int (iN (i + 1))), (0, .ref a)]) hx hb (show decode prog_13_method_2_code 38 = .ok (.iinc 1 1, 3) from by decide +kernel) hl rfl (iN_step i) (by decide) rfl (fun ls hl => ?_)
    refine lv_goto (tgt := 24) hx hb (show decode prog_13_method_2_code 41 = .ok (.goto (-17), 3) from by decide +kernel) (by decide) ?_
    exact ln_loop2 hx hb hK hk fin n (i + 1) (by omega) H locs ls hl hP hD hS
end LN
def y_ln : MethodName := ⟨"ClayBootsModel", "layNone", "([I)V"⟩
set_option maxRecDepth 100000 in
theorem c_ln {X : Cx} {base : Nat} {ws : va_W} {k a : Nat} (hws : ws[k]? = some (a, jar X 2129)) : Met (xl X) y_ln (Cond.code y_ln prog_13_method_2_code 2 none :: qgw) { frames := 0, cells := 0, slots := 0, locals := 0 } (va_Pc [.ref a] (fun U => JG X base U ∧ va_P (xD X) qcl ws U.heap ∧ va_D (jA base) ws))
    (fun _ st oc t => oc = .returned none ∧ (va_P (xD X) qcl (ws.set k (a, .inl (xc X 0, 2129, .inl (lnB 8)))) t.heap ∧ va_D (jA base) (ws.set k (a, .inl (xc X 0, 2129, .inl (lnB 8))))) ∧ va_F (jA base) st t) 0 0 (jA base) := by
  have hk := (List.getElem?_eq_some_iff.mp hws).1
  have he : ws.set k (a, .inl (xc X 0, 2129, .inl (lnA 0))) = ws := by
    have := jw_nil hws
    unfold jw at this
    rw [List.append_nil] at this
    rw [lnA_0]
    exact this
  refine Met.ofW (cc := prog_13_method_2_code) (maxL := 2) (ret := none) (by decide +kernel) rfl ?_
  intro p e s m args0 below meth c s₁ B hml hv
  obtain ⟨rfl, hG, hP, hD⟩ := hv
  rw [← he] at hP hD
  have hx := B.exec
  have hb := B.bytes
  have hr := B.returns
  have hlk := B.notSynchronized
  have hS : va_S (jA base) s.heap s.heap [] := va_S.rf
  have hl := lv_entry ([.ref a]) (n := 2) (Nat.le_of_ble_eq_true rfl)
  rw [lg_entry_eq]
  generalize (lg_sl ([.ref a]) ++ List.replicate (2 - (lg_sl ([.ref a])).length) Slot.unset).toArray = ls at hl ⊢
  have hl : lv_has ls 2 [(0, .ref a)] := hl
  refine lv_iconst (v := 0) hx hb (show decode prog_13_method_2_code 0 = .ok (.iconst 0, 1) from by decide +kernel) (by decide) ?_
  refine lv_istore_n (lv' := [(1, .int 0), (0, .ref a)]) hx hb (show decode prog_13_method_2_code 1 = .ok (.istore_n 1, 1) from by decide +kernel) rfl hl (by decide) rfl (fun ls hl => ?_)
  refine ln_loop1 hx hb hG.1 hk (fun H locs ls hl hP hD hS => ?_) 64 0 (by decide) s.heap [] ls hl hP hD hS
  refine lv_iconst (v := 0) hx hb (show decode prog_13_method_2_code 22 = .ok (.iconst 0, 1) from by decide +kernel) (by decide) ?_
  refine lv_istore_n (lv' := [(1, .int 0), (0, .ref a)]) hx hb (show decode prog_13_method_2_code 23 = .ok (.istore_n 1, 1) from by decide +kernel) rfl hl (by decide) rfl (fun ls hl => ?_)
  rw [← lnB_0] at hP hD
  refine ln_loop2 hx hb hG.1 hk (fun H locs ls hl hP hD hS => ?_) 8 0 (by decide) H locs ls hl hP hD hS
  exact W.vret hx hb hr (fun t ht hW => ⟨rfl, ⟨by rw [ht]; exact hP, hD⟩, hS.F ht⟩) hS.2.2 (show decode prog_13_method_2_code 44 = .ok (.return_, 1) from by decide +kernel)
set_option maxRecDepth 100000 in
theorem j_ln {X : Cx} {base : Nat} {bt : ByteArray} {ml : Nat} {p : Program} {e : Env} {R : Room} {s : State} {m : MethodId} {args : Array Value} {below : List Frame} {meth : Method} {c : Code} {H : Heap} {locs : List Loc} {cells slots : Nat} {Q : State → Prop} {pc : Nat} {ls : Array Slot} {ws l : va_W} {k : Nat} {x : Nat × va_E} {q : Nat} (C : JC X base bt ml "ClayBootsModel" p s m args meth c) (hls : ls.size = ml) (hP : va_P (xD X) qcl (jw ws k x l) H) (hD : va_D (jA base) (jw ws k x l)) (hS : va_S (jA base) s.heap H locs) (hl0 : l[0]? = some (q, jar X 2129)) (hR : 1 ≤ R.frames ∧ 21 ≤ R.locals) (hc : cells ≤ R.cells) (hs : slots ≤ R.slots) (hdg : decode bt pc = .ok (.invokestatic 72, 3))
    (kk : ∀ (H1 : Heap) (locs1 : List Loc), va_P (xD X) qcl (jw ws k x (l.set 0 (q, .inl (xc X 0, 2129, .inl (lnB 8))))) H1 → va_D (jA base) (jw ws k x (l.set 0 (q, .inl (xc X 0, 2129, .inl (lnB 8))))) → va_S (jA base) s.heap H1 locs1 → W p (xl X) e R s m args below meth c H1 locs1 cells slots Q (F0 m (pc + 3) ls [])) : W p (xl X) e R s m args below meth c H locs cells slots Q (F0 m pc ls [.ref q]) := by
  obtain ⟨hx, hb, hr, hml, hown, hts, hlk0, hinm, hG⟩ := C
  have hMt := c_ln (X := X) (base := base) (ws := jw ws k x l) (k := ws.length + 0) (a := q) (by rw [jw_l]; exact hl0)
  have hpre : PreS s H (va_Pc [.ref q] (fun U => JG X base U ∧ va_P (xD X) qcl (jw ws k x l) U.heap ∧ va_D (jA base) (jw ws k x l))) [.ref q] := by
    refine ⟨fun a U g mk' hq => ?_, fun U hU hWm => ⟨rfl, hG.move hWm (by rw [hU]; exact Nat.le_trans hG.2.2.2 hS.1), by rw [hU]; exact hP, hD⟩⟩
    obtain ⟨q0, ⟨g1, g2, g3, g4⟩, q2, q3⟩ := hq
    exact ⟨q0, ⟨va_K.moved (u := U) (U := U.calling g mk' a) (Vm.Alike.refl U.vm) g1, fun w hw => by
      obtain ⟨z1, z2, z3, z4, rfl⟩ : ∃ a i x hh, w = .methodLinkNest a i x hh := by
        simp only [qNW, List.mem_cons, List.not_mem_nil, or_false] at hw
        rcases hw with h | h | h | h | h | h | h | h | h | h | h | h | h | h | h | h <;> exact ⟨_, _, _, _, h⟩
      exact va_Nw.same rfl (u := U) (U := U.calling g mk' a) rfl (g2 _ hw), va_AO.moved (u := U) (U := U.calling g mk' a) (Vm.Alike.refl U.vm) g3, g4⟩, q2, q3⟩
  have hr := va_runS (cells := cells) (slots := slots) (locs := locs) (below := below) (meth := meth) (e := e) (g := F0 m pc ls [.ref q]) (rest := []) (Ts := qgw) (As := [.ref q]) (bytes := prog_13_method_2_code) (maxL := 2) (ret := none) ⟨hx, hb, hml, hown, hts⟩ hMt ⟨callB_of (R := R) 1 hts (good_any (qgw_of (i := 1309) rfl rfl)) rfl rfl rfl (hts (Cond.initialized "ClayBootsModel") (qgw_of (i := 126) rfl rfl)) (hts _ (qgw_of (i := 1307) rfl rfl)) ⟨by decide, by decide, by decide +kernel⟩ ⟨hR.1, hR.2⟩, hts _ (qgw_of (i := 1308) rfl rfl)⟩ hpre rfl rfl hls rfl (Nat.le_of_ble_eq_true rfl) hdg ⟨hc, hs⟩
  refine run_W2 hr hS (fun _ h => h) (fun st o t hq => hq.2.2) (fun v st t H1 locs1 hq hH hS1 => ?_)
  obtain ⟨hv, ⟨hP1, hD1⟩, -⟩ := hq
  cases hv
  rw [jw_lset] at hP1 hD1
  rw [hH] at hP1
  exact kk H1 locs1 hP1 hD1 hS1
