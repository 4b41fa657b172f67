/-! what an entry of a code list must be, by the machine's own decode -/
def qcc : Jvm.ClassFile.Cond → Nat
  | .eq => 0 | .ne => 1 | .lt => 2 | .ge => 3 | .gt => 4 | .le => 5
def hasM (o j kd t : Nat) : Bool := (qML.getD o []).any (fun e => Nat.beq e.1 j && Nat.beq e.2.1 kd && Nat.beq e.2.2.1 t)
def hasF (o j ci t : Nat) : Bool := (qFL.getD o []).any (fun e => Nat.beq e.1 j && Nat.beq e.2.1 ci && Nat.beq e.2.2.1 t)
def hasC (o j : Nat) (x : Int32) : Bool := (qCL.getD o []).any (fun e => Nat.beq e.1 j && decide (e.2.1 = x))
def hasL (o j t : Nat) : Bool := (qLL.getD o []).any (fun e => Nat.beq e.1 j && Nat.beq e.2.1 t)
def hasS (o j t : Nat) : Bool := (qSL.getD o []).any (fun e => Nat.beq e.1 j && Nat.beq e.2 t)
def swTab (pc : Nat) (lo : Int) (offs : List Int) : List (Int32 × Nat) → Bool
  | [] => offs.isEmpty
  | (v, g) :: r => match offs with
    | [] => false
    | f :: fs => decide (v.toInt = lo) && decide ((pc : Int) + f = (g : Int)) && swTab pc (lo + 1) fs r
def swLook (pc : Nat) : List (Int × Int) → List (Int32 × Nat) → Bool
  | [], [] => true
  | (a, f) :: ps, (v, g) :: r => decide (v.toInt = a) && decide ((pc : Int) + f = (g : Int)) && swLook pc ps r
  | _, _ => false
def ck1 (o : Nat) (r : Option FieldType) (n pc : Nat) (i : Instr) (len op : Nat) (x : Int32) (t u : Nat) (tb : List (Int32 × Nat)) : Bool :=
  match i with
  | .iconst z => decide (len = 1) && decide (op = 0) && decide (Int32.ofInt z = x)
  | .bipush z => decide (len = 2) && decide (op = 0) && decide ((Int8.ofInt z).toInt32 = x)
  | .sipush z => decide (len = 3) && decide (op = 0) && decide ((Int16.ofInt z).toInt32 = x)
  | .ldc j => decide (len = 2) && ((decide (op = 0) && hasC o j x) || (decide (op = 41) && hasS o j t && decide (t < 24)))
  | .ldc_w j => decide (len = 3) && decide (op = 0) && hasC o j x
  | .ldc2_w j => decide (len = 3) && decide (op = 42) && hasL o j t
  | .lconst z => decide (len = 1) && decide (op = 42) && decide (z.val = t)
  | .aconst_null => decide (len = 1) && decide (op = 43)
  | .iload_n z => decide (len = 1) && decide (op = 1) && decide (z.val = t)
  | .iload z => decide (len = 2) && decide (op = 1) && decide (z = t)
  | .aload_n z => decide (len = 1) && decide (op = 2) && decide (z.val = t)
  | .aload z => decide (len = 2) && decide (op = 2) && decide (z = t)
  | .lload_n z => decide (len = 1) && decide (op = 3) && decide (z.val = t)
  | .lload z => decide (len = 2) && decide (op = 3) && decide (z = t)
  | .istore_n z => decide (len = 1) && decide (op = 4) && decide (z.val = t) && decide (t < n)
  | .istore z => decide (len = 2) && decide (op = 4) && decide (z = t) && decide (t < n)
  | .astore_n z => decide (len = 1) && decide (op = 5) && decide (z.val = t) && decide (t < n)
  | .astore z => decide (len = 2) && decide (op = 5) && decide (z = t) && decide (t < n)
  | .lstore_n z => decide (len = 1) && decide (op = 6) && decide (z.val = t) && decide (t + 1 < n)
  | .lstore z => decide (len = 2) && decide (op = 6) && decide (z = t) && decide (t + 1 < n)
  | .iinc z c => decide (len = 3) && decide (op = 7) && decide (z = t) && decide (Int32.ofInt c = x) && decide (t < n)
  | .iadd => decide (len = 1) && decide (op = 8) && decide (t = 0)
  | .isub => decide (len = 1) && decide (op = 8) && decide (t = 1)
  | .imul => decide (len = 1) && decide (op = 8) && decide (t = 2)
  | .iand => decide (len = 1) && decide (op = 8) && decide (t = 3)
  | .ior => decide (len = 1) && decide (op = 8) && decide (t = 4)
  | .ixor => decide (len = 1) && decide (op = 8) && decide (t = 5)
  | .ishl => decide (len = 1) && decide (op = 8) && decide (t = 6)
  | .ishr => decide (len = 1) && decide (op = 8) && decide (t = 7)
  | .iushr => decide (len = 1) && decide (op = 8) && decide (t = 8)
  | .idiv => decide (len = 1) && decide (op = 9)
  | .irem => decide (len = 1) && decide (op = 10)
  | .ladd => decide (len = 1) && decide (op = 11) && decide (t = 0)
  | .lmul => decide (len = 1) && decide (op = 11) && decide (t = 1)
  | .lrem => decide (len = 1) && decide (op = 12)
  | .i2l => decide (len = 1) && decide (op = 13)
  | .l2i => decide (len = 1) && decide (op = 14)
  | .dup => decide (len = 1) && decide (op = 15)
  | .dup2 => decide (len = 1) && decide (op = 16)
  | .pop => decide (len = 1) && decide (op = 17)
  | .goto f => decide (len = 3) && decide (op = 18) && decide ((pc : Int) + f = (t : Int))
  | .ifCond c f => decide (len = 3) && decide (op = 19) && decide (qcc c = u) && decide ((pc : Int) + f = (t : Int))
  | .if_icmp c f => decide (len = 3) && decide (op = 20) && decide (qcc c = u) && decide ((pc : Int) + f = (t : Int))
  | .ifnull f => decide (len = 3) && decide (op = 21) && decide ((pc : Int) + f = (t : Int))
  | .ifnonnull f => decide (len = 3) && decide (op = 22) && decide ((pc : Int) + f = (t : Int))
  | .tableswitch df lo hi offs => decide (op = 23) && decide ((pc : Int) + df = (t : Int)) && decide (hi - lo + 1 = (offs.toList.length : Int)) && swTab pc lo offs.toList tb
  | .lookupswitch df ps => decide (op = 23) && decide ((pc : Int) + df = (t : Int)) && ((ps.toList.zip (ps.toList.drop 1)).all (fun (a, next) => a.1 < next.1)) && swLook pc ps.toList tb
  | .getfield j => decide (len = 3) && decide (op = 24) && hasF o j u t
  | .putfield j => decide (len = 3) && decide (op = 25) && hasF o j u t && !(qT u t).2.2.2
  | .iaload => decide (len = 1) && decide (op = 26)
  | .iastore => decide (len = 1) && decide (op = 27)
  | .baload => decide (len = 1) && decide (op = 28)
  | .bastore => decide (len = 1) && decide (op = 29)
  | .laload => decide (len = 1) && decide (op = 30)
  | .lastore => decide (len = 1) && decide (op = 31)
  | .aaload => decide (len = 1) && decide (op = 32)
  | .arraylength => decide (len = 1) && decide (op = 33)
  | .ireturn => decide (len = 1) && ((decide (op = 34) && decide (r = some .int)) || (decide (op = 35) && decide (r = some .boolean)))
  | .lreturn => decide (len = 1) && decide (op = 36) && decide (r = some .long)
  | .return_ => decide (len = 1) && decide (op = 37) && decide (r = none)
  | .invokestatic j => decide (len = 3) && ((decide (op = 38) && (hasM o j 1 t || hasM o j 2 t) && decide (t < qNM) && decide (u = (qmw t).2.1)) || (decide (op = 39) && ((decide (t = 0) && hasM o j 10 0) || (decide (t = 1) && hasM o j 11 0) || (decide (t = 2) && hasM o j 12 0))) || (decide (op = 40) && hasM o j 13 0))
  | .invokevirtual j => decide (len = 3) && decide (op = 44) && hasM o j 0 t && decide (t < qNM) && decide (u = (qmw t).2.1 + 1) && decide ((tb.getD 0 (0, 0)).2 = qow t)
  | _ => false
def chk (m : Nat) (b : ByteArray) (o : Nat) (e : En) : Bool :=
  match decode b e.1 with
  | .ok (i, len) => decide (e.2.1 = e.1 + len) && ck1 o (qrt m) (qml m) e.1 i len e.2.2.1 e.2.2.2.1 e.2.2.2.2.1 e.2.2.2.2.2.1 e.2.2.2.2.2.2
  | _ => false
/-! the tables' rows, opened -/
theorem all_of {α : Type} {l : List α} {f : α → Bool} (h : l.all f = true) {a : α} (ha : a ∈ l) : f a = true := List.all_eq_true.mp h a ha
theorem mem_getD {α : Type} {l : List (List α)} {o : Nat} {e : α} (h : e ∈ l.getD o []) : o < l.length := by
  rcases Nat.lt_or_ge o l.length with h1 | h1
  · exact h1
  · rw [List.getD_eq_getElem?_getD, List.getElem?_eq_none h1] at h
    cases h
theorem hasF_ok {o j ci t : Nat} (h : hasF o j ci t = true) : ci < 12 ∧ t < qN ci ∧ (qT ci t).1 = qcn ci ∧ Cond.fieldLink (qcn o) j (qcn ci) (qT ci t).2.1 (qT ci t).2.2.1 ∈ qgw := by
  unfold hasF at h
  obtain ⟨e, he, hc⟩ := List.any_eq_true.mp h
  simp only [Bool.and_eq_true, Nat.beq_eq] at hc
  obtain ⟨⟨rfl, rfl⟩, rfl⟩ := hc
  have ho : o < 18 := mem_getD he
  have h1 := all_of (all_of qFL_ok (List.mem_range.mpr ho)) he
  simp only [Bool.and_eq_true, decide_eq_true_eq] at h1
  exact ⟨h1.1.1.1, h1.1.1.2, h1.1.2, qgw_of h1.2 rfl⟩
theorem hasC_ok {o j : Nat} {x : Int32} (h : hasC o j x = true) : Cond.constant (qcn o) j x ∈ qgw := by
  unfold hasC at h
  obtain ⟨e, he, hc⟩ := List.any_eq_true.mp h
  simp only [Bool.and_eq_true, Nat.beq_eq, decide_eq_true_eq] at hc
  obtain ⟨rfl, rfl⟩ := hc
  have ho : o < 18 := mem_getD he
  have h1 := all_of (all_of qCL_ok (List.mem_range.mpr ho)) he
  simp only [decide_eq_true_eq] at h1
  exact qgw_of h1 rfl
theorem hasL_ok {o j t : Nat} (h : hasL o j t = true) : Cond.constantLong (qcn o) j (Int64.ofNat t) ∈ qgw := by
  unfold hasL at h
  obtain ⟨e, he, hc⟩ := List.any_eq_true.mp h
  simp only [Bool.and_eq_true, Nat.beq_eq] at hc
  obtain ⟨rfl, rfl⟩ := hc
  have ho : o < 18 := mem_getD he
  have h1 := all_of (all_of qLL_ok (List.mem_range.mpr ho)) he
  simp only [decide_eq_true_eq] at h1
  exact qgw_of h1 rfl
theorem hasS_ok {o j t : Nat} (h : hasS o j t = true) : ∃ z : Nat × Nat × String, qST[t]? = some z ∧ z.1 = o ∧ z.2.1 = j := by
  unfold hasS at h
  obtain ⟨e, he, hc⟩ := List.any_eq_true.mp h
  simp only [Bool.and_eq_true, Nat.beq_eq] at hc
  obtain ⟨rfl, rfl⟩ := hc
  have ho : o < 18 := mem_getD he
  have h1 := all_of (all_of qSL_ok (List.mem_range.mpr ho)) he
  simp only [decide_eq_true_eq, Option.map_eq_some_iff] at h1
  obtain ⟨z, hz, hz2⟩ := h1
  exact ⟨z, hz, congrArg Prod.fst hz2, congrArg Prod.snd hz2⟩
def mlk (o j kd t wi : Nat) : Bool := match kd with | 0 => decide (lw_tbl[wi]? = some (.methodLink (qcn o) j (qyn t))) && !(qmw t).1 | 1 => decide (lw_tbl[wi]? = some (.methodLink (qcn o) j (qyn t))) && (qmw t).1 | 2 => decide (Cond.methodLinkNest (qcn o) j (qyn t) "ClayBoots" ∈ qNW) && (qmw t).1 | 10 => decide (lw_tbl[wi]? = some (.methodLink (qcn o) j Lib.Math.max.name)) | 11 => decide (lw_tbl[wi]? = some (.methodLink (qcn o) j Lib.Math.min.name)) | 12 => decide (lw_tbl[wi]? = some (.methodLink (qcn o) j Lib.Math.abs.name)) | 13 => decide (lw_tbl[wi]? = some (.methodLink (qcn o) j arraycopyName)) | _ => false
theorem hasM_ok {o j kd t : Nat} (h : hasM o j kd t = true) : ∃ wi : Nat, mlk o j kd t wi = true := by
  unfold hasM at h
  obtain ⟨e, he, hc⟩ := List.any_eq_true.mp h
  simp only [Bool.and_eq_true, Nat.beq_eq] at hc
  obtain ⟨⟨rfl, rfl⟩, rfl⟩ := hc
  have ho : o < 18 := mem_getD he
  exact ⟨e.2.2.2, all_of (all_of qML_ok (List.mem_range.mpr ho)) he⟩
theorem hasM0 {o j t : Nat} (h : hasM o j 0 t = true) : Cond.methodLink (qcn o) j (qyn t) ∈ qgw ∧ (qmw t).1 = false := by
  obtain ⟨wi, h1⟩ := hasM_ok h
  unfold mlk at h1
  simp only [Bool.and_eq_true, decide_eq_true_eq, Bool.not_eq_true'] at h1
  exact ⟨qgw_of h1.1 rfl, h1.2⟩
theorem hasM1 {o j t : Nat} (h : hasM o j 1 t = true) : Cond.methodLink (qcn o) j (qyn t) ∈ qgw ∧ (qmw t).1 = true := by
  obtain ⟨wi, h1⟩ := hasM_ok h
  unfold mlk at h1
  simp only [Bool.and_eq_true, decide_eq_true_eq] at h1
  exact ⟨qgw_of h1.1 rfl, h1.2⟩
theorem hasM2 {o j t : Nat} (h : hasM o j 2 t = true) : Cond.methodLinkNest (qcn o) j (qyn t) "ClayBoots" ∈ qNW ∧ (qmw t).1 = true := by
  obtain ⟨wi, h1⟩ := hasM_ok h
  unfold mlk at h1
  simp only [Bool.and_eq_true, decide_eq_true_eq] at h1
  exact h1
theorem hasM10 {o j t : Nat} (h : hasM o j 10 t = true) : Cond.methodLink (qcn o) j Lib.Math.max.name ∈ qgw := by
  obtain ⟨wi, h1⟩ := hasM_ok h
  unfold mlk at h1
  simp only [decide_eq_true_eq] at h1
  exact qgw_of h1 rfl
theorem hasM11 {o j t : Nat} (h : hasM o j 11 t = true) : Cond.methodLink (qcn o) j Lib.Math.min.name ∈ qgw := by
  obtain ⟨wi, h1⟩ := hasM_ok h
  unfold mlk at h1
  simp only [decide_eq_true_eq] at h1
  exact qgw_of h1 rfl
theorem hasM12 {o j t : Nat} (h : hasM o j 12 t = true) : Cond.methodLink (qcn o) j Lib.Math.abs.name ∈ qgw := by
  obtain ⟨wi, h1⟩ := hasM_ok h
  unfold mlk at h1
  simp only [decide_eq_true_eq] at h1
  exact qgw_of h1 rfl
theorem hasM13 {o j t : Nat} (h : hasM o j 13 t = true) : Cond.methodLink (qcn o) j arraycopyName ∈ qgw := by
  obtain ⟨wi, h1⟩ := hasM_ok h
  unfold mlk at h1
  simp only [decide_eq_true_eq] at h1
  exact qgw_of h1 rfl
theorem qLW_in {ci : Nat} (h : ci < 12) : ∀ w ∈ u_ws (qcn ci) (qT ci) (qN ci), w ∈ qgw := by
  intro w hw
  unfold u_ws at hw
  obtain ⟨k, hk, rfl⟩ := List.mem_map.mp hw
  have h1 := all_of (all_of qLW_ok (List.mem_range.mpr h)) hk
  simp only [Bool.and_eq_true, decide_eq_true_eq] at h1
  exact qgw_of h1.1 h1.2
theorem qty_in {ci : Nat} (h : ci < 12) : ∀ k, k < qN ci → parseFieldDescriptor (qT ci k).2.2.1 = some (qty ci k) := by
  intro k hk
  have h1 := all_of (all_of qty_ok (List.mem_range.mpr h)) (List.mem_range.mpr hk)
  simpa using h1
theorem qnm_in {ci : Nat} (h : ci < 12) : ∀ a, a < qN ci → ∀ b, b < qN ci → a ≠ b → (qT ci a).2.1 ≠ (qT ci b).2.1 := by
  intro a ha b hb hne
  have h1 := all_of (all_of (all_of qnm_ok (List.mem_range.mpr h)) (List.mem_range.mpr ha)) (List.mem_range.mpr hb)
  simp only [Bool.or_eq_true, beq_iff_eq, decide_eq_true_eq] at h1
  exact h1.resolve_left hne
theorem qcl_at {ci : Nat} (h : ci < 12) : qcl[ci]? = some (qcn ci, qT ci, qN ci) := by
  unfold qcl
  rw [List.getElem?_map, List.getElem?_range h]
  rfl
