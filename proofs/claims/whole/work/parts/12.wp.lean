set_option maxRecDepth 100000 in
theorem primW : lw_tbl[373]? = some (.static Lib.Math.max.name) ∧ lw_tbl[374]? = some (.code Lib.Math.max.name Lib.Math.max.code 2 (some .int)) ∧ lw_tbl[689]? = some (.static Lib.Math.min.name) ∧ lw_tbl[690]? = some (.code Lib.Math.min.name Lib.Math.min.code 2 (some .int)) ∧ lw_tbl[1151]? = some (.static Lib.Math.abs.name) ∧ lw_tbl[1152]? = some (.code Lib.Math.abs.name Lib.Math.abs.code 1 (some .int)) ∧ lw_tbl[682]? = some (.native arraycopyName) ∧ lw_tbl[681]? = some (.static arraycopyName) ∧ lw_tbl[121]? = some (.initialized "java/lang/Math") ∧ lw_tbl[127]? = some (.initialized "java/lang/System") := by decide +kernel
theorem s_cpy {X : Cx} {d m pc j c0 a0 c a : Nat} {L : Lc} {S : List Vl} {M : Mem} {Q : Option Vl → Mem → Prop} {sp dp n : Int32} (hd : decode (qbt m) pc = .ok (.invokestatic j, 3)) (hl : Cond.methodLink (qcn (qow m)) j arraycopyName ∈ qgw) (h0 : (qcol c0).1 = 1) (h1 : (qcol c).1 = 1) (q1 : ¬ sp < 0) (q2 : ¬ dp < 0) (q3 : ¬ n < 0) (q4 : ix sp + ix n ≤ (qcol c0).2.1) (q5 : ix dp + ix n ≤ (qcol c).2.1) (hw : ((vI n :: vI dp :: vR c a :: vI sp :: vR c0 a0 :: S).map qcat).sum ≤ 20)
    (h : V X (d + 1) m (pc + 3) L S (cpy M c0 a0 c a (ix sp) (ix dp) (ix n)) Q) : V X (d + 1) m pc L (vI n :: vI dp :: vR c a :: vI sp :: vR c0 a0 :: S) M Q := by
  have hc0 := col_ge h0 (by decide)
  have hc1 := col_ge h1 (by decide)
  refine V.mem (S' := S) (fun ho => okS_tail (okS_tail (okS_tail (okS_tail (okS_tail ho))))) ?_ h
  intro p e s mm args below meth cc H locs ls Z hm hG hP hS hL hoS k
  obtain ⟨hx, hb, hr, hml, hown, hts, hlk⟩ := hm
  have p1 := ok_pair (okS_head (okS_tail (okS_tail hoS))) hc1
  have p0 := ok_pair (okS_head (okS_tail (okS_tail (okS_tail (okS_tail hoS))))) hc0
  obtain ⟨k0, g1, g2⟩ := wl_get (X := X) (M := M) p0
  obtain ⟨k1, g3, g4⟩ := wl_get (X := X) (M := M) p1
  rw [ent1 h0] at g1
  rw [ent1 h1] at g3
  simp only [List.map_cons]
  rw [tv_pair hc1, tv_pair hc0]
  have hsum : ((S.map (tv X)).map fun v => v.category).sum ≤ 20 := by
    rw [cat_sum]
    simp only [List.map_cons, List.sum_cons] at hw
    omega
  refine va_copyi hx hb (hml.trans hL.1.symm) hown (hts _ hl) (hts _ (qgw_of primW.2.2.2.2.2.2.1 rfl)) (hts _ (qgw_of primW.2.2.2.2.2.2.2.1 rfl)) (hts _ (qgw_of primW.2.2.2.2.2.2.2.2.2 rfl)) hG.2.1 hP (wl_D hG.1) hS k0 k1 0 0 g1 g3 rfl rfl rfl q1 q2 q3 q4 q5 (fun _ _ => rfl) (by show 1 ≤ d + 1; omega) ?_ hd (fun H1 locs1 hP1 hD1 hS1 => k H1 locs1 ?_ hS1)
  · have h9 : nativeFrameWords "java/lang/System" "arraycopy" 5 ≤ 60 := by decide
    show _ + (_ + 11) ≤ 100 * (d + 1) + 100
    omega
  · have e1 : qent X (cpy M c0 a0 c a (ix sp) (ix dp) (ix n)) c a = .inl (xc X 0, (qcol c).2.1, .inl (va_cpy (M.1 c0 a0) (M.1 c a) sp.toNatClampNeg dp.toNatClampNeg n.toNatClampNeg)) := by rw [ent1 h1, cpy_eq]; rfl
    rw [← e1, wl_cpy g4] at hP1
    exact hP1
theorem s_prim {X : Cx} {d m pc : Nat} {L : Lc} {S S' : List Vl} {M : Mem} {Q : Option Vl → Mem → Prop} {v : Int32} (hw : (S'.map qcat).sum ≤ 20) (hS' : okS S → okS S')
    (row : ∀ (p : Program) (e : Env) (s : State) (mm : MethodId) (args : Array Value) (below : List Frame) (meth : Method) (c : Code) (H : Heap) (locs : List Loc) (ls : Array Slot) (Z : State → Prop), MC m p s mm args meth c → c.maxLocals = ls.size → ((S'.map (tv X)).map fun v => v.category).sum + 13 ≤ (rmm (d + 1)).locals → 1 ≤ (rmm (d + 1)).frames →
      W p (xl X) e (rmm (d + 1)) s mm args below meth c H locs 0 0 Z (F0 mm (pc + 3) ls (.int v :: S'.map (tv X))) → W p (xl X) e (rmm (d + 1)) s mm args below meth c H locs 0 0 Z (F0 mm pc ls (S.map (tv X))))
    (h : V X (d + 1) m (pc + 3) L (vI v :: S') M Q) : V X (d + 1) m pc L S M Q := by
  refine V.step (S' := vI v :: S') (fun _ ho => okS_cons trivial (hS' ho)) ?_ h
  intro p e s mm args below meth cc H locs ls Z hm hG hP hS hL hoL hoS k
  refine row p e s mm args below meth cc H locs ls Z hm (hm.2.2.2.1.trans hL.1.symm) ?_ (by show 1 ≤ d + 1; omega) k
  rw [cat_sum]
  show _ + 13 ≤ 100 * (d + 1) + 100
  omega
theorem rem32 (a b : Int32) : a - a / b * b = a % b := by
  apply Int32.toInt_inj.mp
  rw [Int32.toInt_sub, Int32.toInt_mul, Int32.toInt_div, Int32.toInt_mod, Int.sub_bmod_bmod, Int.sub_eq_add_neg]
  have h1 : (a.toInt + -((a.toInt.tdiv b.toInt).bmod (2 ^ 32) * b.toInt)).bmod (2 ^ 32) = (a.toInt - a.toInt.tdiv b.toInt * b.toInt).bmod (2 ^ 32) := by
    rw [← Int.sub_eq_add_neg, ← Int.sub_bmod_bmod, Int.bmod_mul_bmod, Int.sub_bmod_bmod]
  rw [h1]
  have h2 : a.toInt - a.toInt.tdiv b.toInt * b.toInt = a.toInt.tmod b.toInt := by
    have := Int.tdiv_mul_add_tmod a.toInt b.toInt
    omega
  rw [h2, ← Int32.toInt_mod]
  exact Int32.toInt_bmod (a % b)
theorem rem64 (a b : Int64) : a - a / b * b = a % b := by
  apply Int64.toInt_inj.mp
  rw [Int64.toInt_sub, Int64.toInt_mul, Int64.toInt_div, Int64.toInt_mod, Int.sub_bmod_bmod, Int.sub_eq_add_neg]
  have h1 : (a.toInt + -((a.toInt.tdiv b.toInt).bmod (2 ^ 64) * b.toInt)).bmod (2 ^ 64) = (a.toInt - a.toInt.tdiv b.toInt * b.toInt).bmod (2 ^ 64) := by
    rw [← Int.sub_eq_add_neg, ← Int.sub_bmod_bmod, Int.bmod_mul_bmod, Int.sub_bmod_bmod]
  rw [h1]
  have h2 : a.toInt - a.toInt.tdiv b.toInt * b.toInt = a.toInt.tmod b.toInt := by
    have := Int.tdiv_mul_add_tmod a.toInt b.toInt
    omega
  rw [h2, ← Int64.toInt_mod]
  exact Int64.toInt_bmod (a % b)
theorem cR_of {kd : Nat} {f : Option Vl → Mem → Prop} (h : cR kd f) : ∃ r M', f r M' := by
  rcases kd with _ | _ | kd
  · obtain ⟨M', h⟩ := h
    exact ⟨_, M', h⟩
  · obtain ⟨x, M', h⟩ := h
    exact ⟨_, M', h⟩
  · obtain ⟨x, M', h⟩ := h
    exact ⟨_, M', h⟩
theorem swt_mono {a : Int32} {k k2 : Nat → Prop} {t : Nat} (h : ∀ g, k g → k2 g) : ∀ (tb : List (Int32 × Nat)), swt a k t tb → swt a k2 t tb
  | [], hs => h _ hs
  | (v, g) :: r, hs => ⟨fun z => h _ (hs.1 z), fun z => swt_mono h r (hs.2 z)⟩
theorem cnd_mono {u : Nat} {a b : Int32} {A B A2 B2 : Prop} (h1 : A → A2) (h2 : B → B2) (h : cnd u a b A B) : cnd u a b A2 B2 := by
  rcases u with _ | _ | _ | _ | _ | u <;> (obtain ⟨x, y⟩ := h; exact ⟨fun z => h1 (x z), fun z => h2 (y z)⟩)
set_option maxHeartbeats 4000000 in
theorem wp1_sound {X : Cx} {d m pc npc op t u : Nat} {x : Int32} {tb : List (Int32 × Nat)} {L : Lc} {S : List Vl} {M : Mem} {Q : Option Vl → Mem → Prop} {k : Nat → Lc → List Vl → Mem → Prop} (hc : chk m (qbt m) (qow m) (pc, npc, op, x, t, u, tb) = true)
    (hk : ∀ pc' L' S' M', k pc' L' S' M' → V X (d + 1) m pc' L' S' M' Q) (h : wp1 X d op x t u tb npc L S M Q k) : V X (d + 1) m pc L S M Q := by
  unfold chk at hc
  split at hc
  case h_2 => cases hc
  rename_i i len hd
  simp only [Bool.and_eq_true, decide_eq_true_eq] at hc
  obtain ⟨hnp, hc⟩ := hc
  simp only at hnp hc hd
  subst hnp
  cases i with
  | iconst z =>
    simp only [ck1, Bool.and_eq_true, decide_eq_true_eq] at hc
    obtain ⟨⟨rfl, rfl⟩, rfl⟩ := hc
    exact V.step (S' := vI _ :: S) (fun _ ho => okS_cons trivial ho) (fun p e s mm args below meth c H locs ls Z hm hG hP hS hL hoL hoS k => lv_iconst hm.1 hm.2.1 hd rfl k) (hk _ _ _ _ h)
  | bipush z =>
    simp only [ck1, Bool.and_eq_true, decide_eq_true_eq] at hc
    obtain ⟨⟨rfl, rfl⟩, rfl⟩ := hc
    exact V.step (S' := vI _ :: S) (fun _ ho => okS_cons trivial ho) (fun p e s mm args below meth c H locs ls Z hm hG hP hS hL hoL hoS k => lv_bipush hm.1 hm.2.1 hd rfl k) (hk _ _ _ _ h)
  | sipush z =>
    simp only [ck1, Bool.and_eq_true, decide_eq_true_eq] at hc
    obtain ⟨⟨rfl, rfl⟩, rfl⟩ := hc
    exact V.step (S' := vI _ :: S) (fun _ ho => okS_cons trivial ho) (fun p e s mm args below meth c H locs ls Z hm hG hP hS hL hoL hoS k => lv_sipush hm.1 hm.2.1 hd rfl k) (hk _ _ _ _ h)
  | ldc j =>
    simp only [ck1, Bool.and_eq_true, Bool.or_eq_true, decide_eq_true_eq] at hc
    obtain ⟨rfl, ⟨rfl, hj⟩ | ⟨⟨rfl, hj⟩, h24⟩⟩ := hc
    · exact V.step (S' := vI _ :: S) (fun _ ho => okS_cons trivial ho) (fun p e s mm args below meth c H locs ls Z hm hG hP hS hL hoL hoS k => lv_ldc hm.1 hm.2.1 hm.2.2.2.2.1 (hm.2.2.2.2.2.1 _ (hasC_ok hj)) hd k) (hk _ _ _ _ h)
    · obtain ⟨z, z1, z2, z3⟩ := hasS_ok hj
      refine V.step (S' := vR 1 t :: S) (fun _ ho => okS_cons (Or.inr (Or.inl ⟨rfl, h24⟩)) ho) (fun p e s mm args below meth c H locs ls Z hm hG hP hS hL hoL hoS k => ?_) (hk _ _ _ _ h)
      have hR := hG.2.2.2.1 t z z1
      rw [z2, z3] at hR
      exact va_ldcS hm.1 hm.2.1 hm.2.2.2.2.1 hR hd k
  | ldc_w j =>
    simp only [ck1, Bool.and_eq_true, decide_eq_true_eq] at hc
    obtain ⟨⟨rfl, rfl⟩, hj⟩ := hc
    exact V.step (S' := vI _ :: S) (fun _ ho => okS_cons trivial ho) (fun p e s mm args below meth c H locs ls Z hm hG hP hS hL hoL hoS k => lv_ldcw hm.1 hm.2.1 hm.2.2.2.2.1 (hm.2.2.2.2.2.1 _ (hasC_ok hj)) hd k) (hk _ _ _ _ h)
  | ldc2_w j =>
    simp only [ck1, Bool.and_eq_true, decide_eq_true_eq] at hc
    obtain ⟨⟨rfl, rfl⟩, hj⟩ := hc
    exact V.step (S' := vJ _ :: S) (fun _ ho => okS_cons trivial ho) (fun p e s mm args below meth c H locs ls Z hm hG hP hS hL hoL hoS k => lv_ldc2 hm.1 hm.2.1 hm.2.2.2.2.1 (hm.2.2.2.2.2.1 _ (hasL_ok hj)) hd k) (hk _ _ _ _ h)
  | lconst z =>
    simp only [ck1, Bool.and_eq_true, decide_eq_true_eq] at hc
    obtain ⟨⟨rfl, rfl⟩, rfl⟩ := hc
    exact V.step (S' := vJ _ :: S) (fun _ ho => okS_cons trivial ho) (fun p e s mm args below meth c H locs ls Z hm hG hP hS hL hoL hoS k => lv_lconst hm.1 hm.2.1 hd rfl k) (hk _ _ _ _ h)
  | aconst_null =>
    simp only [ck1, Bool.and_eq_true, decide_eq_true_eq] at hc
    obtain ⟨rfl, rfl⟩ := hc
    exact V.step (S' := vR 0 0 :: S) (fun _ ho => okS_cons (Or.inl rfl) ho) (fun p e s mm args below meth c H locs ls Z hm hG hP hS hL hoL hoS k => lv_null hm.1 hm.2.1 hd k) (hk _ _ _ _ h)
  | iload_n z =>
    simp only [ck1, Bool.and_eq_true, decide_eq_true_eq] at hc
    obtain ⟨⟨rfl, rfl⟩, hz⟩ := hc
    obtain ⟨v, hv, h⟩ := gI_of h
    exact s_load hv (fun p e s mm args below meth c H locs ls Z hm hl k => lv_iload_n hm.1 hm.2.1 hd hz hl k) (hk _ _ _ _ h)
  | iload z =>
    simp only [ck1, Bool.and_eq_true, decide_eq_true_eq] at hc
    obtain ⟨⟨rfl, rfl⟩, rfl⟩ := hc
    obtain ⟨v, hv, h⟩ := gI_of h
    exact s_load hv (fun p e s mm args below meth c H locs ls Z hm hl k => lv_iload hm.1 hm.2.1 hd hl k) (hk _ _ _ _ h)
  | lload_n z =>
    simp only [ck1, Bool.and_eq_true, decide_eq_true_eq] at hc
    obtain ⟨⟨rfl, rfl⟩, hz⟩ := hc
    obtain ⟨v, hv, h⟩ := gJ_of h
    exact s_load hv (fun p e s mm args below meth c H locs ls Z hm hl k => lv_lload_n hm.1 hm.2.1 hd hz hl k) (hk _ _ _ _ h)
  | lload z =>
    simp only [ck1, Bool.and_eq_true, decide_eq_true_eq] at hc
    obtain ⟨⟨rfl, rfl⟩, rfl⟩ := hc
    obtain ⟨v, hv, h⟩ := gJ_of h
    exact s_load hv (fun p e s mm args below meth c H locs ls Z hm hl k => lv_lload hm.1 hm.2.1 hd hl k) (hk _ _ _ _ h)
  | aload_n z =>
    simp only [ck1, Bool.and_eq_true, decide_eq_true_eq] at hc
    obtain ⟨⟨rfl, rfl⟩, hz⟩ := hc
    obtain ⟨c, a, hv, h⟩ := gR_of h
    exact s_aload hv 1 (Or.inl ⟨z, hz, rfl, hd⟩) (hk _ _ _ _ h)
  | aload z =>
    simp only [ck1, Bool.and_eq_true, decide_eq_true_eq] at hc
    obtain ⟨⟨rfl, rfl⟩, rfl⟩ := hc
    obtain ⟨c, a, hv, h⟩ := gR_of h
    exact s_aload hv 2 (Or.inr ⟨rfl, hd⟩) (hk _ _ _ _ h)
  | istore_n z =>
    simp only [ck1, Bool.and_eq_true, decide_eq_true_eq] at hc
    obtain ⟨⟨⟨rfl, rfl⟩, hz⟩, hlt⟩ := hc
    obtain ⟨hn, h⟩ := bB_of h
    obtain ⟨v, S', rfl, h⟩ := tI_of h
    exact s_istore hn hlt 1 (Or.inl ⟨z, hz, rfl, hd⟩) (hk _ _ _ _ h)
  | istore z =>
    simp only [ck1, Bool.and_eq_true, decide_eq_true_eq] at hc
    obtain ⟨⟨⟨rfl, rfl⟩, rfl⟩, hlt⟩ := hc
    obtain ⟨hn, h⟩ := bB_of h
    obtain ⟨v, S', rfl, h⟩ := tI_of h
    exact s_istore hn hlt 2 (Or.inr ⟨rfl, hd⟩) (hk _ _ _ _ h)
  | astore_n z =>
    simp only [ck1, Bool.and_eq_true, decide_eq_true_eq] at hc
    obtain ⟨⟨⟨rfl, rfl⟩, hz⟩, hlt⟩ := hc
    obtain ⟨hn, h⟩ := bB_of h
    obtain ⟨c, a, S', rfl, h⟩ := tR_of h
    exact s_astore hn hlt 1 (Or.inl ⟨z, hz, rfl, hd⟩) (hk _ _ _ _ h)
  | astore z =>
    simp only [ck1, Bool.and_eq_true, decide_eq_true_eq] at hc
    obtain ⟨⟨⟨rfl, rfl⟩, rfl⟩, hlt⟩ := hc
    obtain ⟨hn, h⟩ := bB_of h
    obtain ⟨c, a, S', rfl, h⟩ := tR_of h
    exact s_astore hn hlt 2 (Or.inr ⟨rfl, hd⟩) (hk _ _ _ _ h)
  | lstore_n z =>
    simp only [ck1, Bool.and_eq_true, decide_eq_true_eq] at hc
    obtain ⟨⟨⟨rfl, rfl⟩, hz⟩, hlt⟩ := hc
    obtain ⟨hn, h⟩ := bB_of h
    obtain ⟨v, S', rfl, h⟩ := tJ_of h
    exact s_lstore hn hlt 1 (Or.inl ⟨z, hz, rfl, hd⟩) (hk _ _ _ _ h)
  | lstore z =>
    simp only [ck1, Bool.and_eq_true, decide_eq_true_eq] at hc
    obtain ⟨⟨⟨rfl, rfl⟩, rfl⟩, hlt⟩ := hc
    obtain ⟨hn, h⟩ := bB_of h
    obtain ⟨v, S', rfl, h⟩ := tJ_of h
    exact s_lstore hn hlt 2 (Or.inr ⟨rfl, hd⟩) (hk _ _ _ _ h)
  | iinc z q =>
    simp only [ck1, Bool.and_eq_true, decide_eq_true_eq] at hc
    obtain ⟨⟨⟨⟨rfl, rfl⟩, rfl⟩, rfl⟩, hlt⟩ := hc
    obtain ⟨hn, h⟩ := bB_of h
    obtain ⟨v, hv, h⟩ := gI_of h
    exact s_iinc hv hn hlt hd (hk _ _ _ _ h)
  | goto f =>
    simp only [ck1, Bool.and_eq_true, decide_eq_true_eq] at hc
    obtain ⟨⟨rfl, rfl⟩, ht⟩ := hc
    exact V.step (S' := S) (fun _ ho => ho) (fun p e s mm args below meth c H locs ls Z hm hG hP hS hL hoL hoS k => lv_goto hm.1 hm.2.1 hd ht k) (hk _ _ _ _ h)
  | ifCond cd f =>
    simp only [ck1, Bool.and_eq_true, decide_eq_true_eq] at hc
    obtain ⟨⟨⟨rfl, rfl⟩, rfl⟩, ht⟩ := hc
    obtain ⟨a, S', rfl, h⟩ := tI_of h
    exact s_if hd ht (cnd_mono (hk _ _ _ _) (hk _ _ _ _) h)
  | if_icmp cd f =>
    simp only [ck1, Bool.and_eq_true, decide_eq_true_eq] at hc
    obtain ⟨⟨⟨rfl, rfl⟩, rfl⟩, ht⟩ := hc
    obtain ⟨a, b, S', rfl, h⟩ := tII_of h
    exact s_cnd hd ht (cnd_mono (hk _ _ _ _) (hk _ _ _ _) h)
  | ifnull f =>
    simp only [ck1, Bool.and_eq_true, decide_eq_true_eq] at hc
    obtain ⟨⟨rfl, rfl⟩, ht⟩ := hc
    obtain ⟨c, a, S', rfl, h⟩ := tR_of h
    rcases c with _ | _ | c
    · exact V.step (S' := S') (fun _ ho => okS_tail ho) (fun p e s mm args below meth c H locs ls Z hm hG hP hS hL hoL hoS k => lv_ifnullN hm.1 hm.2.1 hd ht k) (hk _ _ _ _ h)
    · exact V.step (S' := S') (fun _ ho => okS_tail ho) (fun p e s mm args below meth c H locs ls Z hm hG hP hS hL hoL hoS k => lv_ifnull hm.1 hm.2.1 hd k) (hk _ _ _ _ h)
    · exact V.step (S' := S') (fun _ ho => okS_tail ho) (fun p e s mm args below meth c H locs ls Z hm hG hP hS hL hoL hoS k => lv_ifnull hm.1 hm.2.1 hd k) (hk _ _ _ _ h)
  | ifnonnull f =>
    simp only [ck1, Bool.and_eq_true, decide_eq_true_eq] at hc
    obtain ⟨⟨rfl, rfl⟩, ht⟩ := hc
    obtain ⟨c, a, S', rfl, h⟩ := tR_of h
    rcases c with _ | _ | c
    · exact V.step (S' := S') (fun _ ho => okS_tail ho) (fun p e s mm args below meth c H locs ls Z hm hG hP hS hL hoL hoS k => lv_ifnonnullN hm.1 hm.2.1 hd k) (hk _ _ _ _ h)
    · exact V.step (S' := S') (fun _ ho => okS_tail ho) (fun p e s mm args below meth c H locs ls Z hm hG hP hS hL hoL hoS k => lv_ifnonnull hm.1 hm.2.1 hd ht k) (hk _ _ _ _ h)
    · exact V.step (S' := S') (fun _ ho => okS_tail ho) (fun p e s mm args below meth c H locs ls Z hm hG hP hS hL hoL hoS k => lv_ifnonnull hm.1 hm.2.1 hd ht k) (hk _ _ _ _ h)
  | tableswitch df lo hi offs =>
    simp only [ck1, Bool.and_eq_true, decide_eq_true_eq] at hc
    obtain ⟨⟨⟨rfl, ht⟩, hhi⟩, hsw⟩ := hc
    obtain ⟨a, S', rfl, h⟩ := tI_of h
    rcases swt_tab (X := X) tb lo offs.toList hsw h with ⟨i, g, f, q1, q2, q3, q4⟩ | ⟨q1, q2⟩
    · have hi2 : i < offs.toList.length := (List.getElem?_eq_some_iff.mp q2).1
      refine V.step (S' := S') (fun _ ho => okS_tail ho) (fun p e s mm args below meth c H locs ls Z hm hG hP hS hL hoL hoS k => lv_tableIn hm.1 hm.2.1 hd (by omega) (by omega) (off := f) ?_ q3 k) (hk _ _ _ _ q4)
      rw [show (a.toInt - lo).toNat = i by omega, ← Array.getElem?_toList]
      exact q2
    · exact V.step (S' := S') (fun _ ho => okS_tail ho) (fun p e s mm args below meth c H locs ls Z hm hG hP hS hL hoL hoS k => lv_tableOut hm.1 hm.2.1 hd (by omega) ht k) (hk _ _ _ _ q2)
  | lookupswitch df ps =>
    simp only [ck1, Bool.and_eq_true, decide_eq_true_eq] at hc
    obtain ⟨⟨⟨rfl, ht⟩, hps⟩, hsw⟩ := hc
    obtain ⟨a, S', rfl, h⟩ := tI_of h
    obtain ⟨g, f, q1, q2, q3⟩ := swt_look ht ps.toList tb hsw h
    exact V.step (S' := S') (fun _ ho => okS_tail ho) (fun p e s mm args below meth c H locs ls Z hm hG hP hS hL hoL hoS k => lv_lookup hm.1 hm.2.1 hd hps q1 q2 k) (hk _ _ _ _ q3)
  | iadd =>
    simp only [ck1, Bool.and_eq_true, decide_eq_true_eq] at hc
    obtain ⟨⟨rfl, rfl⟩, rfl⟩ := hc
    obtain ⟨a, b, S', rfl, h⟩ := tII_of h
    exact V.step (S' := vI _ :: S') (fun _ ho => okS_cons trivial (okS_tail (okS_tail ho))) (fun p e s mm args below meth c H locs ls Z hm hG hP hS hL hoL hoS k => lv_iadd hm.1 hm.2.1 hd k) (hk _ _ _ _ h)
  | isub =>
    simp only [ck1, Bool.and_eq_true, decide_eq_true_eq] at hc
    obtain ⟨⟨rfl, rfl⟩, rfl⟩ := hc
    obtain ⟨a, b, S', rfl, h⟩ := tII_of h
    exact V.step (S' := vI _ :: S') (fun _ ho => okS_cons trivial (okS_tail (okS_tail ho))) (fun p e s mm args below meth c H locs ls Z hm hG hP hS hL hoL hoS k => lv_isub hm.1 hm.2.1 hd k) (hk _ _ _ _ h)
  | imul =>
    simp only [ck1, Bool.and_eq_true, decide_eq_true_eq] at hc
    obtain ⟨⟨rfl, rfl⟩, rfl⟩ := hc
    obtain ⟨a, b, S', rfl, h⟩ := tII_of h
    exact V.step (S' := vI _ :: S') (fun _ ho => okS_cons trivial (okS_tail (okS_tail ho))) (fun p e s mm args below meth c H locs ls Z hm hG hP hS hL hoL hoS k => lv_imul hm.1 hm.2.1 hd k) (hk _ _ _ _ h)
  | iand =>
    simp only [ck1, Bool.and_eq_true, decide_eq_true_eq] at hc
    obtain ⟨⟨rfl, rfl⟩, rfl⟩ := hc
    obtain ⟨a, b, S', rfl, h⟩ := tII_of h
    exact V.step (S' := vI _ :: S') (fun _ ho => okS_cons trivial (okS_tail (okS_tail ho))) (fun p e s mm args below meth c H locs ls Z hm hG hP hS hL hoL hoS k => lv_iand hm.1 hm.2.1 hd k) (hk _ _ _ _ h)
  | ior =>
    simp only [ck1, Bool.and_eq_true, decide_eq_true_eq] at hc
    obtain ⟨⟨rfl, rfl⟩, rfl⟩ := hc
    obtain ⟨a, b, S', rfl, h⟩ := tII_of h
    exact V.step (S' := vI _ :: S') (fun _ ho => okS_cons trivial (okS_tail (okS_tail ho))) (fun p e s mm args below meth c H locs ls Z hm hG hP hS hL hoL hoS k => lv_ior hm.1 hm.2.1 hd k) (hk _ _ _ _ h)
  | ixor =>
    simp only [ck1, Bool.and_eq_true, decide_eq_true_eq] at hc
    obtain ⟨⟨rfl, rfl⟩, rfl⟩ := hc
    obtain ⟨a, b, S', rfl, h⟩ := tII_of h
    exact V.step (S' := vI _ :: S') (fun _ ho => okS_cons trivial (okS_tail (okS_tail ho))) (fun p e s mm args below meth c H locs ls Z hm hG hP hS hL hoL hoS k => lv_ixor hm.1 hm.2.1 hd k) (hk _ _ _ _ h)
  | ishl =>
    simp only [ck1, Bool.and_eq_true, decide_eq_true_eq] at hc
    obtain ⟨⟨rfl, rfl⟩, rfl⟩ := hc
    obtain ⟨a, b, S', rfl, h⟩ := tII_of h
    exact V.step (S' := vI _ :: S') (fun _ ho => okS_cons trivial (okS_tail (okS_tail ho))) (fun p e s mm args below meth c H locs ls Z hm hG hP hS hL hoL hoS k => lv_ishl hm.1 hm.2.1 hd k) (hk _ _ _ _ h)
  | ishr =>
    simp only [ck1, Bool.and_eq_true, decide_eq_true_eq] at hc
    obtain ⟨⟨rfl, rfl⟩, rfl⟩ := hc
    obtain ⟨a, b, S', rfl, h⟩ := tII_of h
    exact V.step (S' := vI _ :: S') (fun _ ho => okS_cons trivial (okS_tail (okS_tail ho))) (fun p e s mm args below meth c H locs ls Z hm hG hP hS hL hoL hoS k => lv_ishr hm.1 hm.2.1 hd k) (hk _ _ _ _ h)
  | iushr =>
    simp only [ck1, Bool.and_eq_true, decide_eq_true_eq] at hc
    obtain ⟨⟨rfl, rfl⟩, rfl⟩ := hc
    obtain ⟨a, b, S', rfl, h⟩ := tII_of h
    exact V.step (S' := vI _ :: S') (fun _ ho => okS_cons trivial (okS_tail (okS_tail ho))) (fun p e s mm args below meth c H locs ls Z hm hG hP hS hL hoL hoS k => lv_iushr hm.1 hm.2.1 hd rfl k) (hk _ _ _ _ h)
  | idiv =>
    simp only [ck1, Bool.and_eq_true, decide_eq_true_eq] at hc
    obtain ⟨rfl, rfl⟩ := hc
    obtain ⟨a, b, S', rfl, hb, h⟩ := tII_of h
    exact V.step (S' := vI _ :: S') (fun _ ho => okS_cons trivial (okS_tail (okS_tail ho))) (fun p e s mm args below meth c H locs ls Z hm hG hP hS hL hoL hoS k => lv_idiv hm.1 hm.2.1 hd hb k) (hk _ _ _ _ h)
  | irem =>
    simp only [ck1, Bool.and_eq_true, decide_eq_true_eq] at hc
    obtain ⟨rfl, rfl⟩ := hc
    obtain ⟨a, b, S', rfl, hb, h⟩ := tII_of h
    exact V.step (S' := vI _ :: S') (fun _ ho => okS_cons trivial (okS_tail (okS_tail ho))) (fun p e s mm args below meth c H locs ls Z hm hG hP hS hL hoL hoS k => lv_irem hm.1 hm.2.1 hd hb (by rw [rem32]; exact k)) (hk _ _ _ _ h)
  | ladd =>
    simp only [ck1, Bool.and_eq_true, decide_eq_true_eq] at hc
    obtain ⟨⟨rfl, rfl⟩, rfl⟩ := hc
    obtain ⟨a, b, S', rfl, h⟩ := tJJ_of h
    exact V.step (S' := vJ _ :: S') (fun _ ho => okS_cons trivial (okS_tail (okS_tail ho))) (fun p e s mm args below meth c H locs ls Z hm hG hP hS hL hoL hoS k => lv_ladd hm.1 hm.2.1 hd k) (hk _ _ _ _ h)
  | lmul =>
    simp only [ck1, Bool.and_eq_true, decide_eq_true_eq] at hc
    obtain ⟨⟨rfl, rfl⟩, rfl⟩ := hc
    obtain ⟨a, b, S', rfl, h⟩ := tJJ_of h
    exact V.step (S' := vJ _ :: S') (fun _ ho => okS_cons trivial (okS_tail (okS_tail ho))) (fun p e s mm args below meth c H locs ls Z hm hG hP hS hL hoL hoS k => lv_lmul hm.1 hm.2.1 hd k) (hk _ _ _ _ h)
  | lrem =>
    simp only [ck1, Bool.and_eq_true, decide_eq_true_eq] at hc
    obtain ⟨rfl, rfl⟩ := hc
    obtain ⟨a, b, S', rfl, hb, h⟩ := tJJ_of h
    exact V.step (S' := vJ _ :: S') (fun _ ho => okS_cons trivial (okS_tail (okS_tail ho))) (fun p e s mm args below meth c H locs ls Z hm hG hP hS hL hoL hoS k => lv_lrem hm.1 hm.2.1 hd hb (by rw [rem64]; exact k)) (hk _ _ _ _ h)
  | i2l =>
    simp only [ck1, Bool.and_eq_true, decide_eq_true_eq] at hc
    obtain ⟨rfl, rfl⟩ := hc
    obtain ⟨a, S', rfl, h⟩ := tI_of h
    exact V.step (S' := vJ _ :: S') (fun _ ho => okS_cons trivial (okS_tail ho)) (fun p e s mm args below meth c H locs ls Z hm hG hP hS hL hoL hoS k => lv_i2l hm.1 hm.2.1 hd rfl k) (hk _ _ _ _ h)
  | l2i =>
    simp only [ck1, Bool.and_eq_true, decide_eq_true_eq] at hc
    obtain ⟨rfl, rfl⟩ := hc
    obtain ⟨a, S', rfl, h⟩ := tJ_of h
    exact V.step (S' := vI _ :: S') (fun _ ho => okS_cons trivial (okS_tail ho)) (fun p e s mm args below meth c H locs ls Z hm hG hP hS hL hoL hoS k => lv_l2i hm.1 hm.2.1 hd rfl k) (hk _ _ _ _ h)
  | dup =>
    simp only [ck1, Bool.and_eq_true, decide_eq_true_eq] at hc
    obtain ⟨rfl, rfl⟩ := hc
    rcases S with _ | ⟨v, S'⟩
    · exact h.elim
    · obtain ⟨h1, h⟩ := bB_of h
      exact V.step (S' := v :: v :: S') (fun _ ho => okS_cons (okS_head ho) ho) (fun p e s mm args below meth c H locs ls Z hm hG hP hS hL hoL hoS k => lv_dup hm.1 hm.2.1 hd (cat_tv v h1) k) (hk _ _ _ _ h)
  | dup2 =>
    simp only [ck1, Bool.and_eq_true, decide_eq_true_eq] at hc
    obtain ⟨rfl, rfl⟩ := hc
    rcases S with _ | ⟨v, _ | ⟨w, S'⟩⟩
    · exact h.elim
    · exact h.elim
    · obtain ⟨h1, h⟩ := bB_of h
      simp only [Bool.and_eq_true] at h1
      exact V.step (S' := v :: w :: v :: w :: S') (fun _ ho => okS_cons (okS_head ho) (okS_cons (okS_head (okS_tail ho)) ho)) (fun p e s mm args below meth c H locs ls Z hm hG hP hS hL hoL hoS k => lv_dup2_11 hm.1 hm.2.1 hd (cat_tv v h1.1) (cat_tv w h1.2) k) (hk _ _ _ _ h)
  | pop =>
    simp only [ck1, Bool.and_eq_true, decide_eq_true_eq] at hc
    obtain ⟨rfl, rfl⟩ := hc
    rcases S with _ | ⟨v, S'⟩
    · exact h.elim
    · obtain ⟨h1, h⟩ := bB_of h
      exact V.step (S' := S') (fun _ ho => okS_tail ho) (fun p e s mm args below meth c H locs ls Z hm hG hP hS hL hoL hoS k => lv_pop hm.1 hm.2.1 hd (cat_tv v h1) k) (hk _ _ _ _ h)
  | getfield j =>
    simp only [ck1, Bool.and_eq_true, decide_eq_true_eq] at hc
    obtain ⟨⟨rfl, rfl⟩, hF⟩ := hc
    obtain ⟨c, a, S', rfl, h⟩ := tR_of h
    obtain ⟨hb, h⟩ := bB_of h
    simp only [Bool.and_eq_true, Nat.beq_eq] at hb
    obtain ⟨⟨h2, h0⟩, hu⟩ := hb
    have h2 := Nat.le_of_ble_eq_true h2
    split at h
    · rename_i f1 f2 hf
      exact s_get hd hF h2 h0 hu hf (v := vI (M.1 c a t)) rfl (fun _ => trivial) (hk _ _ _ _ h)
    · rename_i f1 f2 hf
      exact s_get hd hF h2 h0 hu hf (v := vI (M.1 c a t)) rfl (fun _ => trivial) (hk _ _ _ _ h)
    · rename_i c' f2 hf
      refine V.okp (fun ho => ?_)
      have hr := (ok_ref (X := X) (ok_pair (okS_head ho) h2) (List.mem_of_getElem? hf)).1 rfl
      exact s_get hd hF h2 h0 hu hf (v := vR c' a) (tv_pair hr.1).symm (fun _ => Or.inr (Or.inr hr.2)) (hk _ _ _ _ h)
    · rename_i c' a' hf
      refine V.okp (fun ho => ?_)
      have hr := (ok_ref (X := X) (ok_pair (okS_head ho) h2) (List.mem_of_getElem? hf)).2 rfl
      exact s_get hd hF h2 h0 hu hf (v := vR c' a') (tv_pair hr.1).symm (fun _ => Or.inr (Or.inr hr.2)) (hk _ _ _ _ h)
    · exact h.elim
  | putfield j =>
    simp only [ck1, Bool.and_eq_true, decide_eq_true_eq, Bool.not_eq_true'] at hc
    obtain ⟨⟨⟨rfl, rfl⟩, hF⟩, hfin⟩ := hc
    obtain ⟨c, a, x, S', rfl, h⟩ := tXR_of h
    obtain ⟨hb, h⟩ := bB_of h
    simp only [Bool.and_eq_true, Nat.beq_eq] at hb
    obtain ⟨⟨h2, h0⟩, hu⟩ := hb
    have h2 := Nat.le_of_ble_eq_true h2
    refine V.okp (fun ho => ?_)
    have hp := ok_pair (okS_head (okS_tail ho)) h2
    split at h
    · rename_i f1 f2 hf
      have ty := (typ_at hp h0 hf).1 rfl
      rw [hu] at ty
      exact s_put hd hF hfin h2 h0 hu hf (Or.inl rfl) ⟨_, ty, rfl, rfl⟩ (hk _ _ _ _ (h _ rfl))
    · rename_i f1 f2 hf
      have ty := (typ_at hp h0 hf).2 rfl
      rw [hu] at ty
      exact s_put hd hF hfin h2 h0 hu hf (Or.inr rfl) ⟨_, ty, (narB h.1).1, (narB h.1).2.1⟩ (hk _ _ _ _ (h.2 _ rfl))
    · exact h.elim
  | iaload =>
    simp only [ck1, Bool.and_eq_true, decide_eq_true_eq] at hc
    obtain ⟨rfl, rfl⟩ := hc
    obtain ⟨c, a, i, S', rfl, h⟩ := tIR_of h
    obtain ⟨hb, hi, h⟩ := bB_of h
    rw [Nat.beq_eq] at hb
    exact s_iald hb hi hd (col_ge hb (by decide)) (hk _ _ _ _ h)
  | baload =>
    simp only [ck1, Bool.and_eq_true, decide_eq_true_eq] at hc
    obtain ⟨rfl, rfl⟩ := hc
    obtain ⟨c, a, i, S', rfl, h⟩ := tIR_of h
    obtain ⟨hb, hi, h⟩ := bB_of h
    rw [Nat.beq_eq] at hb
    exact s_zald hb hi hd (col_ge hb (by decide)) (hk _ _ _ _ h)
  | laload =>
    simp only [ck1, Bool.and_eq_true, decide_eq_true_eq] at hc
    obtain ⟨rfl, rfl⟩ := hc
    obtain ⟨c, a, i, S', rfl, h⟩ := tIR_of h
    obtain ⟨hb, hi, h⟩ := bB_of h
    rw [Nat.beq_eq] at hb
    exact s_lald hb hi hd (col_ge hb (by decide)) (hk _ _ _ _ h)
  | iastore =>
    simp only [ck1, Bool.and_eq_true, decide_eq_true_eq] at hc
    obtain ⟨rfl, rfl⟩ := hc
    obtain ⟨c, a, i, x, S', rfl, h⟩ := tIIR_of h
    obtain ⟨hb, hi, h⟩ := bB_of h
    rw [Nat.beq_eq] at hb
    exact s_iast hb hi hd (col_ge hb (by decide)) (hk _ _ _ _ (h _ rfl))
  | bastore =>
    simp only [ck1, Bool.and_eq_true, decide_eq_true_eq] at hc
    obtain ⟨rfl, rfl⟩ := hc
    obtain ⟨c, a, i, x, S', rfl, h⟩ := tIIR_of h
    obtain ⟨hb, hi, hx, h⟩ := bB_of h
    rw [Nat.beq_eq] at hb
    exact s_zast hb hi hx hd (col_ge hb (by decide)) (hk _ _ _ _ (h _ rfl))
  | lastore =>
    simp only [ck1, Bool.and_eq_true, decide_eq_true_eq] at hc
    obtain ⟨rfl, rfl⟩ := hc
    obtain ⟨c, a, i, x, S', rfl, h⟩ := tJIR_of h
    obtain ⟨hb, hi, h⟩ := bB_of h
    rw [Nat.beq_eq] at hb
    exact s_last hb hi hd (col_ge hb (by decide)) (hk _ _ _ _ (h _ rfl))
  | aaload =>
    simp only [ck1, Bool.and_eq_true, decide_eq_true_eq] at hc
    obtain ⟨rfl, rfl⟩ := hc
    obtain ⟨c, a, i, S', rfl, h⟩ := tIR_of h
    obtain ⟨hb, hi, h⟩ := bB_of h
    rw [Nat.beq_eq] at hb
    split at h
    · rename_i z c' a' fs hf
      exact s_aald hb hi hf hd (col_ge hb (by decide)) (hk _ _ _ _ h)
    · exact h.elim
  | arraylength =>
    simp only [ck1, Bool.and_eq_true, decide_eq_true_eq] at hc
    obtain ⟨rfl, rfl⟩ := hc
    obtain ⟨c, a, S', rfl, h⟩ := tR_of h
    obtain ⟨hb, h⟩ := bB_of h
    rw [Nat.beq_eq] at hb
    exact s_alen hb hd (col_ge hb (by decide)) (hk _ _ _ _ h)
  | ireturn =>
    simp only [ck1, Bool.and_eq_true, Bool.or_eq_true, decide_eq_true_eq] at hc
    obtain ⟨rfl, ⟨rfl, hr⟩ | ⟨rfl, hr⟩⟩ := hc
    · simp only [wp1] at h
      split at h
      · exact s_ret (r := some (vI _)) h (fun p e s mm args below meth c H locs ls hm hq hf => W.iret hm.1 hm.2.1 (hm.2.2.1.trans hr) hq hf hd hm.2.2.2.2.2.2)
      · exact h.elim
    · simp only [wp1] at h
      split at h
      · exact s_ret (r := some (vI _)) h.2 (fun p e s mm args below meth c H locs ls hm hq hf => W.zret hm.1 hm.2.1 (hm.2.2.1.trans hr) (narB h.1).1 hq hf hd hm.2.2.2.2.2.2)
      · exact h.elim
  | lreturn =>
    simp only [ck1, Bool.and_eq_true, decide_eq_true_eq] at hc
    obtain ⟨⟨rfl, rfl⟩, hr⟩ := hc
    simp only [wp1] at h
    split at h
    · exact s_ret (r := some (vJ _)) h (fun p e s mm args below meth c H locs ls hm hq hf => W.lret hm.1 hm.2.1 (hm.2.2.1.trans hr) hq hf hd hm.2.2.2.2.2.2)
    · exact h.elim
  | return_ =>
    simp only [ck1, Bool.and_eq_true, decide_eq_true_eq] at hc
    obtain ⟨⟨rfl, rfl⟩, hr⟩ := hc
    simp only [wp1] at h
    split at h
    · exact s_ret (r := none) h (fun p e s mm args below meth c H locs ls hm hq hf => W.vret hm.1 hm.2.1 (hm.2.2.1.trans hr) hq hf hd hm.2.2.2.2.2.2)
    · exact h.elim
  | invokestatic j =>
    simp only [ck1, Bool.and_eq_true, Bool.or_eq_true, decide_eq_true_eq] at hc
    obtain ⟨rfl, (⟨⟨⟨rfl, hM⟩, ht⟩, hu⟩ | ⟨rfl, hM⟩) | ⟨rfl, hM⟩⟩ := hc
    · obtain ⟨hb, h⟩ := bB_of h
      obtain ⟨r, M', hcc, h⟩ := cR_of h
      simp only [Bool.and_eq_true] at hb
      rcases hM with hM | hM
      · exact s_static hd ht hu (hasM1 hM).2 (Or.inl (hasM1 hM).1) (Nat.le_of_ble_eq_true hb.1) (Nat.le_of_ble_eq_true hb.2) hcc (hk _ _ _ _ h)
      · exact s_static hd ht hu (hasM2 hM).2 (Or.inr (hasM2 hM).1) (Nat.le_of_ble_eq_true hb.1) (Nat.le_of_ble_eq_true hb.2) hcc (hk _ _ _ _ h)
    · rcases hM with (⟨rfl, hM⟩ | ⟨rfl, hM⟩) | ⟨rfl, hM⟩
      · obtain ⟨hb, h⟩ := bB_of h
        have hb := Nat.le_of_ble_eq_true hb
        obtain ⟨a, b, S', rfl, h⟩ := tII_of h
        simp only [List.map_cons, List.sum_cons] at hb
        exact s_prim (S' := S') (by omega) (fun ho => okS_tail (okS_tail ho)) (fun p e s mm args below meth c H locs ls Z hm hml hlo hfr k => va_mmax hm.1 hm.2.1 hml hm.2.2.2.2.1 (hm.2.2.2.2.2.1 _ (hasM10 hM)) (hm.2.2.2.2.2.1 _ (qgw_of primW.1 rfl)) (hm.2.2.2.2.2.1 _ (qgw_of primW.2.2.2.2.2.2.2.2.1 rfl)) (hm.2.2.2.2.2.1 _ (qgw_of primW.2.1 rfl)) hfr hlo (Nat.le_refl _) (Nat.le_refl _) hd k) (hk _ _ _ _ h)
      · obtain ⟨hb, h⟩ := bB_of h
        have hb := Nat.le_of_ble_eq_true hb
        obtain ⟨a, b, S', rfl, h⟩ := tII_of h
        simp only [List.map_cons, List.sum_cons] at hb
        exact s_prim (S' := S') (by omega) (fun ho => okS_tail (okS_tail ho)) (fun p e s mm args below meth c H locs ls Z hm hml hlo hfr k => va_mmin hm.1 hm.2.1 hml hm.2.2.2.2.1 (hm.2.2.2.2.2.1 _ (hasM11 hM)) (hm.2.2.2.2.2.1 _ (qgw_of primW.2.2.1 rfl)) (hm.2.2.2.2.2.1 _ (qgw_of primW.2.2.2.2.2.2.2.2.1 rfl)) (hm.2.2.2.2.2.1 _ (qgw_of primW.2.2.2.1 rfl)) hfr hlo (Nat.le_refl _) (Nat.le_refl _) hd k) (hk _ _ _ _ h)
      · obtain ⟨hb, h⟩ := bB_of h
        have hb := Nat.le_of_ble_eq_true hb
        obtain ⟨a, S', rfl, h⟩ := tI_of h
        simp only [List.map_cons, List.sum_cons] at hb
        exact s_prim (S' := S') (by omega) (fun ho => okS_tail ho) (fun p e s mm args below meth c H locs ls Z hm hml hlo hfr k => va_mabs hm.1 hm.2.1 hml hm.2.2.2.2.1 (hm.2.2.2.2.2.1 _ (hasM12 hM)) (hm.2.2.2.2.2.1 _ (qgw_of primW.2.2.2.2.1 rfl)) (hm.2.2.2.2.2.1 _ (qgw_of primW.2.2.2.2.2.2.2.2.1 rfl)) (hm.2.2.2.2.2.1 _ (qgw_of primW.2.2.2.2.2.1 rfl)) hfr hlo (Nat.le_refl _) (Nat.le_refl _) hd k) (hk _ _ _ _ h)
    · obtain ⟨hb, h⟩ := bB_of h
      obtain ⟨c0, a0, c, a, sp, dp, n, S', rfl, h⟩ := tCP_of h
      obtain ⟨hb2, q1, q2, q3, q4, q5, h⟩ := bB_of h
      simp only [Bool.and_eq_true, Nat.beq_eq] at hb2
      exact s_cpy hd (hasM13 hM) hb2.1 hb2.2 q1 q2 q3 q4 q5 (Nat.le_of_ble_eq_true hb) (hk _ _ _ _ (h _ rfl))
  | invokevirtual j =>
    simp only [ck1, Bool.and_eq_true, decide_eq_true_eq] at hc
    obtain ⟨⟨⟨⟨⟨rfl, rfl⟩, hM⟩, ht⟩, hu⟩, ho⟩ := hc
    obtain ⟨hb, h⟩ := bB_of h
    obtain ⟨r, M', hcc, h⟩ := cR_of h
    simp only [Bool.and_eq_true] at hb
    rw [ho] at hb
    exact s_virtual hd ht hu (hasM0 hM).2 (hasM0 hM).1 (Nat.le_of_ble_eq_true hb.1.1) (Nat.le_of_ble_eq_true hb.1.2) hb.2 hcc (hk _ _ _ _ h)
  | _ => simp [ck1] at hc
theorem qfetch_mem : ∀ {cd : List En} {pc : Nat} {e : Nat × Nat × Int32 × Nat × Nat × List (Int32 × Nat)}, qfetch cd pc = some e → (pc, e) ∈ cd
  | [], pc, e, h => by simp [qfetch] at h
  | x :: r, pc, e, h => by
    unfold qfetch at h
    split at h
    · rename_i hb
      rw [Nat.beq_eq] at hb
      subst hb
      cases h
      exact List.mem_cons_self
    · exact List.mem_cons_of_mem _ (qfetch_mem h)
theorem wpn_sound {X : Cx} {d m : Nat} {cd : List En} {cuts : List (Nat × List Bool)} {Q : Option Vl → Mem → Prop} (hcd : cd.all (chk m (qbt m) (qow m)) = true) : ∀ (n pc : Nat) (L : Lc) (S : List Vl) (M : Mem), wpn X d m cd cuts n pc L S M Q → V X (d + 1) m pc L S M Q
  | 0, pc, L, S, M, h => h.elim
  | n + 1, pc, L, S, M, h => by
    unfold wpn at h
    split at h
    · rename_i npc op x t u tb hf
      refine wp1_sound (all_of hcd (qfetch_mem hf)) (fun pc' L' S' M' hk => ?_) h
      split at hk
      · rename_i mask hm
        exact V.mask (qmask_len mask L') (qmask_sub mask L') hk
      · exact wpn_sound hcd n pc' L' S' M' hk
    · exact h.elim
