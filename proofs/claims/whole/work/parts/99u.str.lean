/-! texts: length and charAt of the literals -/
theorem str_all : ∀ i, i < 24 → (qSlen.getD i 0 = (sBy i).length ∧ qSbyt.getD i [] = (sBy i).map iN ∧ (sBy i).all (fun b => decide (b < 128)) = true ∧ (iN (sBy i).length >>> ((0 : Int32) &&& 31)) = iN (sBy i).length ∧ (sBy i).length < 1000) := by decide +kernel
theorem byt_all : ∀ b, b < 128 → (iN b &&& 255 = iN b ∧ ((iN b).toUInt32 % 65536).toInt32 = iN b) := by decide +kernel
theorem byt_nar {b : Nat} (hb : b < 128) : narrow .char (.int (iN b)) = .int (iN b) := by
  have h := (byt_all b hb).2
  simp only [narrow]
  first
    | rw [h]
    | (congr 1)
def SC (X : Cx) (rm : Room) (y : MethodName) (bt : ByteArray) (ml : Nat) (rt : Option FieldType) (args : List Value) (M : Mem) (r : Option Value) : Prop :=
  Met (xl X) y (Cond.code y bt ml rt :: qgw) rm (va_Pc args (fun U => Gd X U U.heap ∧ Rp X M U.heap)) (fun _ st o t => o = .returned r ∧ Rp X M t.heap ∧ va_F (inW X) st t) 0 0 (inW X)
section SR
variable {X : Cx} {M : Mem} {p : Program} {e : Env} {R : Room} {s : State} {m : MethodId} {args : Array Value} {below : List Frame} {meth : Method} {c : Code} {H : Heap} {locs : List Loc} {Z : State → Prop} {pc : Nat} {ls : Array Slot} {rest : List Value} {bt : ByteArray} {ml : Nat} {own : String}
theorem sc_V (F : CallFix p m c bt ml s args qgw own) (hG : Gd X s s.heap) (hP : Rp X M H) (hS : va_S (inW X) s.heap H locs) (hls : ls.size = ml) {i : Nat} (hi : i < 24) {rm : Room} {y : MethodName} {bt' : ByteArray} {ml' : Nat} {rt' : Option FieldType} {r : Option Value} (hM : SC X rm y bt' ml' rt' [.ref (xk X i)] M r) {index : Nat} (hl : Cond.methodLink own index y ∈ qgw) (hcode : Cond.code y bt' ml' rt' ∈ qgw) (hini : Cond.initialized y.cls ∈ qgw) (hin : Cond.instanceMethod y ∈ qgw) (hse : Cond.selects "java/lang/String" y y ∈ qgw) (hd : y.cls ≠ "java/lang/invoke/MethodHandle" ∧ y.cls ≠ "java/lang/invoke/VarHandle" ∧ (parseMethodDescriptor y.desc).map (fun d => d.parameters.length) = some 0) (hrc : rm.cells = 0) (hrs : rm.slots = 0) (hR : rm.frames + 1 ≤ R.frames ∧ 8 + (ml' + 11) + rm.locals ≤ R.locals) (hW : (rest.map fun v => v.category).sum ≤ 8) (hdg : decode bt pc = .ok (.invokevirtual index, 3))
    (kk : ∀ (H1 : Heap) (locs1 : List Loc), Rp X M H1 → va_S (inW X) s.heap H1 locs1 → W p (xl X) e R s m args below meth c H1 locs1 0 0 Z (F0 m (pc + 3) ls (r.toList ++ rest))) : W p (xl X) e R s m args below meth c H locs 0 0 Z (F0 m pc ls (.ref (xk X i) :: rest)) := by
  obtain ⟨hx, hb, hml, hown, hts⟩ := F
  have hr := va_runV (cells := 0) (slots := 0) (locs := locs) (below := below) (meth := meth) (e := e) (R := R) (g := F0 m pc ls (.ref (xk X i) :: rest)) (rest := rest) (Ts := qgw) (As := []) (b := xk X i) (C := "java/lang/String") (bytes := bt') (maxL := ml') (ret := rt') ⟨hx, hb, hml, hown, hts⟩ hM ⟨callB_of (R := R) 0 hts (good_any hcode) rfl hrc hrs (hts _ hini) (hts _ hl) hd hR, hts _ hin, hts _ hse⟩ ⟨cc_blind, vk_recv hG.2.2.2.2.1 hi hS, cc_pre hG hP hS⟩ rfl rfl hls rfl (lv_room' hW) hdg ⟨Nat.zero_le _, Nat.zero_le _⟩
  refine run_W hr hS (fun st o t hq => hq.2.2) (fun v st t H1 locs1 hq hH hS1 => ?_)
  obtain ⟨hv, hR1, -⟩ := hq
  cases hv
  exact kk H1 locs1 (by rw [← hH]; exact hR1) hS1
theorem sc_S (F : CallFix p m c bt ml s args qgw own) (hG : Gd X s s.heap) (hP : Rp X M H) (hS : va_S (inW X) s.heap H locs) (hls : ls.size = ml) {rm : Room} {y : MethodName} {bt' : ByteArray} {ml' : Nat} {rt' : Option FieldType} {r : Option Value} {As st0 : List Value} (hM : SC X rm y bt' ml' rt' As M r) {index n : Nat} (hl : Cond.methodLink own index y ∈ qgw) (hcode : Cond.code y bt' ml' rt' ∈ qgw) (hini : Cond.initialized y.cls ∈ qgw) (hst : Cond.static y ∈ qgw) (hd : y.cls ≠ "java/lang/invoke/MethodHandle" ∧ y.cls ≠ "java/lang/invoke/VarHandle" ∧ (parseMethodDescriptor y.desc).map (fun d => d.parameters.length) = some n) (hn : As.length = n) (hrc : rm.cells = 0) (hrs : rm.slots = 0) (hR : rm.frames + 1 ≤ R.frames ∧ 8 + (ml' + 11) + rm.locals ≤ R.locals) (hst0 : st0 = As.reverse ++ rest) (hW : (rest.map fun v => v.category).sum ≤ 8) (hdg : decode bt pc = .ok (.invokestatic index, 3))
    (kk : ∀ (H1 : Heap) (locs1 : List Loc), Rp X M H1 → va_S (inW X) s.heap H1 locs1 → W p (xl X) e R s m args below meth c H1 locs1 0 0 Z (F0 m (pc + 3) ls (r.toList ++ rest))) : W p (xl X) e R s m args below meth c H locs 0 0 Z (F0 m pc ls st0) := by
  obtain ⟨hx, hb, hml, hown, hts⟩ := F
  subst hst0
  have hr := va_runS (cells := 0) (slots := 0) (locs := locs) (below := below) (meth := meth) (e := e) (R := R) (g := F0 m pc ls (As.reverse ++ rest)) (rest := rest) (Ts := qgw) (As := As) (bytes := bt') (maxL := ml') (ret := rt') ⟨hx, hb, hml, hown, hts⟩ hM ⟨callB_of (R := R) n hts (good_any hcode) rfl hrc hrs (hts _ hini) (hts _ hl) hd hR, hts _ hst⟩ ⟨cc_blind, cc_pre hG hP hS⟩ rfl hn hls rfl (lv_room' hW) hdg ⟨Nat.zero_le _, Nat.zero_le _⟩
  refine run_W hr hS (fun st o t hq => hq.2.2) (fun v st t H1 locs1 hq hH hS1 => ?_)
  obtain ⟨hv, hR1, -⟩ := hq
  cases hv
  exact kk H1 locs1 (by rw [← hH]; exact hR1) hS1
end SR
theorem SC_of {X : Cx} {M : Mem} {rm : Room} {y : MethodName} {bt : ByteArray} {ml : Nat} {rt : Option FieldType} {args : List Value} {r : Option Value} (hpl : plainName y.cls = true) (hle : (lg_sl args).length ≤ ml)
    (body : ∀ (p : Program) (e : Env) (s : State) (m : MethodId) (below : List Frame) (meth : Method) (c : Code) (ls : Array Slot), CallFix p m c bt ml s args.toArray qgw y.cls → meth.sig.returnType = rt → meth.locks = false → Gd X s s.heap → Rp X M s.heap → lv_has ls ml (lv_args 0 args) →
      W p (xl X) e rm s m args.toArray below meth c s.heap [] 0 0 (MQ below (fun _ st o t => o = .returned r ∧ Rp X M t.heap ∧ va_F (inW X) st t) args.toArray s 0 0 (inW X)) (F0 m 0 ls [])) : SC X rm y bt ml rt args M r := by
  refine Met.ofW (cc := bt) (maxL := ml) (ret := rt) hpl rfl ?_
  intro p e s m args0 below meth c s₁ B hml hv
  obtain ⟨rfl, hG, hP⟩ := hv
  have hts := atoms_spec (ws := Cond.code y bt ml rt :: qgw) B.pre
  have hown : s.vm.findClass y.cls = some m.cls := findClass_of_methodNamed B.named
  have hl := lv_entry args (n := ml) hle
  rw [lg_entry_eq]
  exact body p e s m below meth c _ ⟨B.exec, B.bytes, hml, hown, fun w hw => hts w (List.mem_cons_of_mem _ hw)⟩ B.returns B.notSynchronized hG hP hl
set_option maxRecDepth 100000 in
theorem sc_coder {X : Cx} {M : Mem} {i : Nat} (hi : i < 24) : SC X { frames := 0, cells := 0, slots := 0, locals := 0 } ⟨"java/lang/String", "coder", "()B"⟩ prog_16_method_152_code 1 (some .byte) [.ref (xk X i)] M (some (.int 0)) := by
  refine SC_of (by decide +kernel) (Nat.le_of_ble_eq_true rfl) ?_
  intro p e s m below meth c ls F hrt hlocks hG hP hl
  have hl : lv_has ls 1 [(0, .ref (xk X i))] := hl
  have hS : va_S (inW X) s.heap s.heap [] := va_S.rf
  obtain ⟨hx, hb, hml, hown, hts⟩ := F
  refine va_gets hx hb hG.2.2.2.2.2.1 hS hown (hts _ (qgw_of (i := 832) rfl rfl)) (fun _ h => h) (show decode prog_16_method_152_code 0 = .ok (.getstatic 38, 3) from by decide +kernel) ?_
  refine lv_if_eq (tgt := 13) hx hb (show decode prog_16_method_152_code 3 = .ok (.ifCond .eq 10, 3) from by decide +kernel) (by decide) (fun h => absurd h (by decide)) (fun _ => ?_)
  refine lv_aload_n hx hb (show decode prog_16_method_152_code 6 = .ok (.aload_n 0, 1) from by decide +kernel) rfl (lv_at hl 0 rfl) ?_
  refine vk_getf hx hb (hG.2.2.2.2.1.1 i hi).2.1 hS hown (hts _ (qgw_of (i := 1942) rfl rfl)) (fun _ h => h) (show decode prog_16_method_152_code 7 = .ok (.getfield 15, 3) from by decide +kernel) ?_
  refine lv_goto (tgt := 14) hx hb (show decode prog_16_method_152_code 10 = .ok (.goto 4, 3) from by decide +kernel) (by decide) ?_
  exact W.zret (ty := .byte) hx hb hrt rfl (fun t ht hW => ⟨rfl, by rw [ht]; exact hP, hS.F ht⟩) hS.2.2 (show decode prog_16_method_152_code 14 = .ok (.ireturn, 1) from by decide +kernel)
set_option maxRecDepth 100000 in
theorem sc_latin {X : Cx} {M : Mem} {i : Nat} (hi : i < 24) : SC X { frames := 0, cells := 0, slots := 0, locals := 0 } ⟨"java/lang/String", "isLatin1", "()Z"⟩ prog_16_method_154_code 1 (some .boolean) [.ref (xk X i)] M (some (.int 1)) := by
  refine SC_of (by decide +kernel) (Nat.le_of_ble_eq_true rfl) ?_
  intro p e s m below meth c ls F hrt hlocks hG hP hl
  have hl : lv_has ls 1 [(0, .ref (xk X i))] := hl
  have hS : va_S (inW X) s.heap s.heap [] := va_S.rf
  obtain ⟨hx, hb, hml, hown, hts⟩ := F
  refine va_gets hx hb hG.2.2.2.2.2.1 hS hown (hts _ (qgw_of (i := 832) rfl rfl)) (fun _ h => h) (show decode prog_16_method_154_code 0 = .ok (.getstatic 38, 3) from by decide +kernel) ?_
  refine lv_if_eq (tgt := 17) hx hb (show decode prog_16_method_154_code 3 = .ok (.ifCond .eq 14, 3) from by decide +kernel) (by decide) (fun h => absurd h (by decide)) (fun _ => ?_)
  refine lv_aload_n hx hb (show decode prog_16_method_154_code 6 = .ok (.aload_n 0, 1) from by decide +kernel) rfl (lv_at hl 0 rfl) ?_
  refine vk_getf hx hb (hG.2.2.2.2.1.1 i hi).2.1 hS hown (hts _ (qgw_of (i := 1942) rfl rfl)) (fun _ h => h) (show decode prog_16_method_154_code 7 = .ok (.getfield 15, 3) from by decide +kernel) ?_
  refine lv_if_ne (tgt := 17) hx hb (show decode prog_16_method_154_code 10 = .ok (.ifCond .ne 7, 3) from by decide +kernel) (by decide) (fun h => absurd rfl h) (fun _ => ?_)
  refine lv_iconst (v := 1) hx hb (show decode prog_16_method_154_code 13 = .ok (.iconst 1, 1) from by decide +kernel) (by decide) ?_
  refine lv_goto (tgt := 18) hx hb (show decode prog_16_method_154_code 14 = .ok (.goto 4, 3) from by decide +kernel) (by decide) ?_
  exact W.zret (ty := .boolean) hx hb hrt rfl (fun t ht hW => ⟨rfl, by rw [ht]; exact hP, hS.F ht⟩) hS.2.2 (show decode prog_16_method_154_code 18 = .ok (.ireturn, 1) from by decide +kernel)
set_option maxRecDepth 100000 in
theorem sc_preR {X : Cx} {M : Mem} {k n aF : Nat} (hk : k < n) (hn : n < 1000) : SC X { frames := 0, cells := 0, slots := 0, locals := 0 } ⟨"jdk/internal/util/Preconditions", "checkIndex", "(IILjava/util/function/BiFunction;)I"⟩ prog_20_method_11_code 3 (some .int) [.int (iN k), .int (iN n), .ref aF] M (some (.int (iN k))) := by
  refine SC_of (by decide +kernel) (Nat.le_of_ble_eq_true rfl) ?_
  intro p e s m below meth c ls F hrt hlocks hG hP hl
  have hl : lv_has ls 3 [(0, .int (iN k)), (1, .int (iN n)), (2, .ref aF)] := hl
  have hS : va_S (inW X) s.heap s.heap [] := va_S.rf
  obtain ⟨hx, hb, hml, hown, hts⟩ := F
  refine lv_iload_n hx hb (show decode prog_20_method_11_code 0 = .ok (.iload_n 0, 1) from by decide +kernel) rfl (lv_at hl 0 rfl) ?_
  refine lv_if_lt (tgt := 9) hx hb (show decode prog_20_method_11_code 1 = .ok (.ifCond .lt 8, 3) from by decide +kernel) (by decide) (fun h => absurd h ?_) (fun _ => ?_)
  · rw [show (0 : Int32) = iN 0 from rfl, iN_lt (by omega) (by decide)]
    omega
  refine lv_iload_n hx hb (show decode prog_20_method_11_code 4 = .ok (.iload_n 0, 1) from by decide +kernel) rfl (lv_at hl 0 rfl) ?_
  refine lv_iload_n hx hb (show decode prog_20_method_11_code 5 = .ok (.iload_n 1, 1) from by decide +kernel) rfl (lv_at hl 1 rfl) ?_
  refine lv_icmp_lt (tgt := 16) hx hb (show decode prog_20_method_11_code 6 = .ok (.if_icmp .lt 10, 3) from by decide +kernel) (by decide) (fun _ => ?_) (fun h => absurd ((iN_lt (by omega) (by omega)).mpr hk) h)
  refine lv_iload_n hx hb (show decode prog_20_method_11_code 16 = .ok (.iload_n 0, 1) from by decide +kernel) rfl (lv_at hl 0 rfl) ?_
  exact W.zret (ty := .int) hx hb hrt rfl (fun t ht hW => ⟨rfl, by rw [ht]; exact hP, hS.F ht⟩) hS.2.2 (show decode prog_20_method_11_code 17 = .ok (.ireturn, 1) from by decide +kernel)
set_option maxRecDepth 100000 in
theorem sc_preN {X : Cx} {M : Mem} {k n : Nat} (hk : k < n) (hn : n < 1000) : SC X { frames := 0, cells := 0, slots := 0, locals := 0 } ⟨"jdk/internal/util/Preconditions", "checkIndex", "(IILjava/util/function/BiFunction;)I"⟩ prog_20_method_11_code 3 (some .int) [.int (iN k), .int (iN n), .null] M (some (.int (iN k))) := by
  refine SC_of (by decide +kernel) (Nat.le_of_ble_eq_true rfl) ?_
  intro p e s m below meth c ls F hrt hlocks hG hP hl
  have hl : lv_has ls 3 [(0, .int (iN k)), (1, .int (iN n)), (2, .null)] := hl
  have hS : va_S (inW X) s.heap s.heap [] := va_S.rf
  obtain ⟨hx, hb, hml, hown, hts⟩ := F
  refine lv_iload_n hx hb (show decode prog_20_method_11_code 0 = .ok (.iload_n 0, 1) from by decide +kernel) rfl (lv_at hl 0 rfl) ?_
  refine lv_if_lt (tgt := 9) hx hb (show decode prog_20_method_11_code 1 = .ok (.ifCond .lt 8, 3) from by decide +kernel) (by decide) (fun h => absurd h ?_) (fun _ => ?_)
  · rw [show (0 : Int32) = iN 0 from rfl, iN_lt (by omega) (by decide)]
    omega
  refine lv_iload_n hx hb (show decode prog_20_method_11_code 4 = .ok (.iload_n 0, 1) from by decide +kernel) rfl (lv_at hl 0 rfl) ?_
  refine lv_iload_n hx hb (show decode prog_20_method_11_code 5 = .ok (.iload_n 1, 1) from by decide +kernel) rfl (lv_at hl 1 rfl) ?_
  refine lv_icmp_lt (tgt := 16) hx hb (show decode prog_20_method_11_code 6 = .ok (.if_icmp .lt 10, 3) from by decide +kernel) (by decide) (fun _ => ?_) (fun h => absurd ((iN_lt (by omega) (by omega)).mpr hk) h)
  refine lv_iload_n hx hb (show decode prog_20_method_11_code 16 = .ok (.iload_n 0, 1) from by decide +kernel) rfl (lv_at hl 0 rfl) ?_
  exact W.zret (ty := .int) hx hb hrt rfl (fun t ht hW => ⟨rfl, by rw [ht]; exact hP, hS.F ht⟩) hS.2.2 (show decode prog_20_method_11_code 17 = .ok (.ireturn, 1) from by decide +kernel)
theorem sc_pre {X : Cx} {M : Mem} {k n : Nat} {v : Value} (hv : v = .null ∨ ∃ aF : Nat, v = .ref aF) (hk : k < n) (hn : n < 1000) : SC X { frames := 0, cells := 0, slots := 0, locals := 0 } ⟨"jdk/internal/util/Preconditions", "checkIndex", "(IILjava/util/function/BiFunction;)I"⟩ prog_20_method_11_code 3 (some .int) [.int (iN k), .int (iN n), v] M (some (.int (iN k))) := by
  rcases hv with rfl | ⟨aF, rfl⟩
  · exact sc_preN hk hn
  · exact sc_preR hk hn
set_option maxRecDepth 100000 in
theorem sc_check {X : Cx} {M : Mem} {k n : Nat} (hk : k < n) (hn : n < 1000) : SC X { frames := 1, cells := 0, slots := 0, locals := 100 } ⟨"java/lang/String", "checkIndex", "(II)V"⟩ prog_16_method_155_code 2 none [.int (iN k), .int (iN n)] M none := by
  refine SC_of (by decide +kernel) (Nat.le_of_ble_eq_true rfl) ?_
  intro p e s m below meth c ls F hrt hlocks hG hP hl
  have hl : lv_has ls 2 [(0, .int (iN k)), (1, .int (iN n))] := hl
  have hS : va_S (inW X) s.heap s.heap [] := va_S.rf
  have F0 := F
  obtain ⟨hx, hb, hml, hown, hts⟩ := F
  obtain ⟨vF, hvF, hZ⟩ := hG.2.2.2.2.2.2
  refine lv_iload_n hx hb (show decode prog_16_method_155_code 0 = .ok (.iload_n 0, 1) from by decide +kernel) rfl (lv_at hl 0 rfl) ?_
  refine lv_iload_n hx hb (show decode prog_16_method_155_code 1 = .ok (.iload_n 1, 1) from by decide +kernel) rfl (lv_at hl 1 rfl) ?_
  refine va_gets hx hb hZ hS hown (hts _ (qgw_of (i := 848) rfl rfl)) (fun _ h => h) (show decode prog_16_method_155_code 2 = .ok (.getstatic 1053, 3) from by decide +kernel) ?_
  refine sc_S (rest := []) F0 hG hP hS hl.1 (sc_pre hvF hk hn) (index := 1059) (n := 3) (qgw_of (i := 850) rfl rfl) (qgw_of (i := 852) rfl rfl) (qgw_of (i := 130) rfl rfl) (qgw_of (i := 851) rfl rfl) ⟨by decide, by decide, by decide +kernel⟩ rfl rfl rfl ⟨by decide, by decide⟩ rfl (by decide) (show decode prog_16_method_155_code 5 = .ok (.invokestatic 1059, 3) from by decide +kernel) (fun H locs hP hS => ?_)
  refine lv_pop hx hb (va := .int (iN k)) (show decode prog_16_method_155_code 8 = .ok (.pop, 1) from by decide +kernel) rfl ?_
  exact W.vret hx hb hrt (fun t ht hW => ⟨rfl, by rw [ht]; exact hP, hS.F ht⟩) hS.2.2 (show decode prog_16_method_155_code 9 = .ok (.return_, 1) from by decide +kernel)
set_option maxRecDepth 100000 in
theorem sc_char {X : Cx} {M : Mem} {i k : Nat} (hi : i < 24) (hk : k < (sBy i).length) : SC X { frames := 2, cells := 0, slots := 0, locals := 200 } ⟨"java/lang/StringLatin1", "charAt", "([BI)C"⟩ prog_17_method_2_code 2 (some .char) [.ref (xv X i), .int (iN k)] M (some (.int (iN ((sBy i).getD k 0)))) := by
  obtain ⟨s1, s2, s3, -, s5⟩ := str_all i hi
  have hb128 : (sBy i).getD k 0 < 128 := by
    have h1 : (sBy i).getD k 0 ∈ sBy i := by
      rw [List.getD_eq_getElem?_getD, List.getElem?_eq_getElem hk]
      exact List.getElem_mem hk
    exact of_decide_eq_true (List.all_eq_true.mp s3 _ h1)
  have hval : (qSbyt.getD i []).getD k 0 = iN ((sBy i).getD k 0) := by
    rw [s2, List.getD_eq_getElem?_getD, List.getElem?_map, List.getElem?_eq_getElem hk, List.getD_eq_getElem?_getD, List.getElem?_eq_getElem hk]
    rfl
  refine SC_of (by decide +kernel) (Nat.le_of_ble_eq_true rfl) ?_
  intro p e s m below meth c ls F hrt hlocks hG hP hl
  have hl : lv_has ls 2 [(0, .ref (xv X i)), (1, .int (iN k))] := hl
  have hS : va_S (inW X) s.heap s.heap [] := va_S.rf
  have F0 := F
  obtain ⟨hx, hb, hml, hown, hts⟩ := F
  have hT := (hG.2.2.2.2.1.1 i hi).2.2.2
  refine lv_iload_n hx hb (show decode prog_17_method_2_code 0 = .ok (.iload_n 1, 1) from by decide +kernel) rfl (lv_at hl 1 rfl) ?_
  refine lv_aload_n hx hb (show decode prog_17_method_2_code 1 = .ok (.aload_n 0, 1) from by decide +kernel) rfl (lv_at hl 0 rfl) ?_
  refine va_tlen hx hb hT hS (v := iN (sBy i).length) (by rw [s1]) (show decode prog_17_method_2_code 2 = .ok (.arraylength, 1) from by decide +kernel) ?_
  refine sc_S (rest := []) F0 hG hP hS hl.1 (sc_check (n := (sBy i).length) hk s5) (index := 9) (n := 2) (qgw_of (i := 845) rfl rfl) (qgw_of (i := 847) rfl rfl) (qgw_of (i := 128) rfl rfl) (qgw_of (i := 846) rfl rfl) ⟨by decide, by decide, by decide +kernel⟩ rfl rfl rfl ⟨by decide, by decide⟩ rfl (by decide) (show decode prog_17_method_2_code 3 = .ok (.invokestatic 9, 3) from by decide +kernel) (fun H locs hP hS => ?_)
  refine lv_aload_n hx hb (show decode prog_17_method_2_code 6 = .ok (.aload_n 0, 1) from by decide +kernel) rfl (lv_at hl 0 rfl) ?_
  refine lv_iload_n hx hb (show decode prog_17_method_2_code 7 = .ok (.iload_n 1, 1) from by decide +kernel) rfl (lv_at hl 1 rfl) ?_
  have hcl : (iN k).toNatClampNeg = k := ix_of (by omega)
  refine va_tb hx hb hT hS (i := iN k) (v := .int (iN ((sBy i).getD k 0))) (by rw [s1]; exact inb_of hk (by omega)) (by rw [hcl, hval]) (show decode prog_17_method_2_code 8 = .ok (.baload, 1) from by decide +kernel) ?_
  refine lv_sipush (v := 255) hx hb (show decode prog_17_method_2_code 9 = .ok (.sipush 255, 3) from by decide +kernel) (by decide) ?_
  refine lv_iand hx hb (show decode prog_17_method_2_code 12 = .ok (.iand, 1) from by decide +kernel) ?_
  rw [(byt_all _ hb128).1]
  refine lv_i2c hx hb (show decode prog_17_method_2_code 13 = .ok (.i2c, 1) from by decide +kernel) (byt_all _ hb128).2 ?_
  exact W.zret (ty := .char) hx hb hrt (byt_nar hb128) (fun t ht hW => ⟨rfl, by rw [ht]; exact hP, hS.F ht⟩) hS.2.2 (show decode prog_17_method_2_code 14 = .ok (.ireturn, 1) from by decide +kernel)
set_option maxRecDepth 100000 in
theorem sc_276 {X : Cx} {M : Mem} {d i : Nat} (hi : i < 24) : SC X (rmm (d + 3)) ⟨"java/lang/String", "length", "()I"⟩ prog_16_method_54_code 1 (some .int) [.ref (xk X i)] M (some (.int (iN (sBy i).length))) := by
  obtain ⟨s1, s2, s3, s4, s5⟩ := str_all i hi
  refine SC_of (by decide +kernel) (Nat.le_of_ble_eq_true rfl) ?_
  intro p e s m below meth c ls F hrt hlocks hG hP hl
  have hl : lv_has ls 1 [(0, .ref (xk X i))] := hl
  have hS : va_S (inW X) s.heap s.heap [] := va_S.rf
  have F0 := F
  obtain ⟨hx, hb, hml, hown, hts⟩ := F
  have hE := hG.2.2.2.2.1.1 i hi
  refine lv_aload_n hx hb (show decode prog_16_method_54_code 0 = .ok (.aload_n 0, 1) from by decide +kernel) rfl (lv_at hl 0 rfl) ?_
  refine vk_getf hx hb hE.2.2.1 hS hown (hts _ (qgw_of (i := 1941) rfl rfl)) (fun _ h => h) (show decode prog_16_method_54_code 1 = .ok (.getfield 9, 3) from by decide +kernel) ?_
  refine va_tlen hx hb hE.2.2.2 hS (v := iN (sBy i).length) (by rw [s1]) (show decode prog_16_method_54_code 4 = .ok (.arraylength, 1) from by decide +kernel) ?_
  refine lv_aload_n hx hb (show decode prog_16_method_54_code 5 = .ok (.aload_n 0, 1) from by decide +kernel) rfl (lv_at hl 0 rfl) ?_
  refine sc_V (rest := [.int (iN (sBy i).length)]) F0 hG hP hS hl.1 hi (sc_coder hi) (index := 335) (qgw_of (i := 828) rfl rfl) (qgw_of (i := 831) rfl rfl) (qgw_of (i := 128) rfl rfl) (qgw_of (i := 829) rfl rfl) (qgw_of (i := 830) rfl rfl) ⟨by decide, by decide, by decide +kernel⟩ rfl rfl ⟨by show 0 + 1 ≤ d + 3; omega, by show 8 + (1 + 11) + 0 ≤ 100 * (d + 3) + 100; omega⟩ (Nat.le_of_ble_eq_true rfl) (show decode prog_16_method_54_code 6 = .ok (.invokevirtual 335, 3) from by decide +kernel) (fun H locs hP hS => ?_)
  refine lv_ishr hx hb (show decode prog_16_method_54_code 9 = .ok (.ishr, 1) from by decide +kernel) ?_
  rw [s4]
  exact W.zret (ty := .int) hx hb hrt rfl (fun t ht hW => ⟨rfl, by rw [ht]; exact hP, hS.F ht⟩) hS.2.2 (show decode prog_16_method_54_code 10 = .ok (.ireturn, 1) from by decide +kernel)
set_option maxRecDepth 100000 in
theorem sc_275 {X : Cx} {M : Mem} {d i k : Nat} (hi : i < 24) (hk : k < (sBy i).length) : SC X (rmm (d + 3)) ⟨"java/lang/String", "charAt", "(I)C"⟩ prog_16_method_56_code 2 (some .char) [.ref (xk X i), .int (iN k)] M (some (.int (iN ((sBy i).getD k 0)))) := by
  obtain ⟨s1, s2, s3, s4, s5⟩ := str_all i hi
  have hb128 : (sBy i).getD k 0 < 128 := by
    have h1 : (sBy i).getD k 0 ∈ sBy i := by
      rw [List.getD_eq_getElem?_getD, List.getElem?_eq_getElem hk]
      exact List.getElem_mem hk
    exact of_decide_eq_true (List.all_eq_true.mp s3 _ h1)
  refine SC_of (by decide +kernel) (Nat.le_of_ble_eq_true rfl) ?_
  intro p e s m below meth c ls F hrt hlocks hG hP hl
  have hl : lv_has ls 2 [(0, .ref (xk X i)), (1, .int (iN k))] := hl
  have hS : va_S (inW X) s.heap s.heap [] := va_S.rf
  have F0 := F
  obtain ⟨hx, hb, hml, hown, hts⟩ := F
  have hE := hG.2.2.2.2.1.1 i hi
  refine lv_aload_n hx hb (show decode prog_16_method_56_code 0 = .ok (.aload_n 0, 1) from by decide +kernel) rfl (lv_at hl 0 rfl) ?_
  refine sc_V (rest := []) F0 hG hP hS hl.1 hi (sc_latin hi) (index := 492) (qgw_of (i := 838) rfl rfl) (qgw_of (i := 841) rfl rfl) (qgw_of (i := 128) rfl rfl) (qgw_of (i := 839) rfl rfl) (qgw_of (i := 840) rfl rfl) ⟨by decide, by decide, by decide +kernel⟩ rfl rfl ⟨by show 0 + 1 ≤ d + 3; omega, by show 8 + (1 + 11) + 0 ≤ 100 * (d + 3) + 100; omega⟩ (Nat.le_of_ble_eq_true rfl) (show decode prog_16_method_56_code 1 = .ok (.invokevirtual 492, 3) from by decide +kernel) (fun H locs hP hS => ?_)
  refine lv_if_eq (tgt := 16) hx hb (show decode prog_16_method_56_code 4 = .ok (.ifCond .eq 12, 3) from by decide +kernel) (by decide) (fun h => absurd h (by decide)) (fun _ => ?_)
  refine lv_aload_n hx hb (show decode prog_16_method_56_code 7 = .ok (.aload_n 0, 1) from by decide +kernel) rfl (lv_at hl 0 rfl) ?_
  refine vk_getf hx hb hE.2.2.1 hS hown (hts _ (qgw_of (i := 1941) rfl rfl)) (fun _ h => h) (show decode prog_16_method_56_code 8 = .ok (.getfield 9, 3) from by decide +kernel) ?_
  refine lv_iload_n hx hb (show decode prog_16_method_56_code 11 = .ok (.iload_n 1, 1) from by decide +kernel) rfl (lv_at hl 1 rfl) ?_
  refine sc_S (rest := []) F0 hG hP hS hl.1 (sc_char hi hk) (index := 495) (n := 2) (qgw_of (i := 842) rfl rfl) (qgw_of (i := 844) rfl rfl) (qgw_of (i := 129) rfl rfl) (qgw_of (i := 843) rfl rfl) ⟨by decide, by decide, by decide +kernel⟩ rfl rfl rfl ⟨by show 2 + 1 ≤ d + 3; omega, by show 8 + (2 + 11) + 200 ≤ 100 * (d + 3) + 100; omega⟩ rfl (by decide) (show decode prog_16_method_56_code 12 = .ok (.invokestatic 495, 3) from by decide +kernel) (fun H locs hP hS => ?_)
  exact W.zret (ty := .char) hx hb hrt (byt_nar hb128) (fun t ht hW => ⟨rfl, by rw [ht]; exact hP, hS.F ht⟩) hS.2.2 (show decode prog_16_method_56_code 15 = .ok (.ireturn, 1) from by decide +kernel)
theorem strOk {X : Cx} : StrOk X := ⟨fun d M i hi => ⟨trivial, fun _ => sc_276 hi⟩, fun d M i k hi hk => ⟨trivial, fun _ => sc_275 hi hk⟩⟩
