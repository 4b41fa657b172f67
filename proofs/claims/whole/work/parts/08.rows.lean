/-! an instruction that changes the stack alone -/
theorem V.step {X : Cx} {d m pc pc' : Nat} {L : Lc} {S S' : List Vl} {M : Mem} {Q : Option Vl → Mem → Prop} (hok : okL L → okS S → okS S')
    (row : ∀ (p : Program) (e : Env) (s : State) (mm : MethodId) (args : Array Value) (below : List Frame) (meth : Method) (c : Code) (H : Heap) (locs : List Loc) (ls : Array Slot) (Z : State → Prop), MC m p s mm args meth c → Gd X s s.heap → Rp X M H → va_S (inW X) s.heap H locs → LV X (qml m) L ls → okL L → okS S →
      W p (xl X) e (rmm d) s mm args below meth c H locs 0 0 Z (F0 mm pc' ls (S'.map (tv X))) → W p (xl X) e (rmm d) s mm args below meth c H locs 0 0 Z (F0 mm pc ls (S.map (tv X))))
    (h : V X d m pc' L S' M Q) : V X d m pc L S M Q := by
  intro p e s mm args below meth c H locs ls C
  obtain ⟨hm, hG, hP, hS, hL, hl, hoL, hoS⟩ := C
  exact row p e s mm args below meth c H locs ls _ hm hG hP hS hL hoL hoS (h p e s mm args below meth c H locs ls ⟨hm, hG, hP, hS, hL, hl, hoL, hok hoL hoS⟩)
theorem V.two {X : Cx} {d m pc p1 p2 : Nat} {L : Lc} {S S' : List Vl} {M : Mem} {Q : Option Vl → Mem → Prop} {A B : Prop} (hok : okS S → okS S')
    (row : ∀ (p : Program) (e : Env) (s : State) (mm : MethodId) (args : Array Value) (below : List Frame) (meth : Method) (c : Code) (H : Heap) (locs : List Loc) (ls : Array Slot) (Z : State → Prop), MC m p s mm args meth c →
      (A → W p (xl X) e (rmm d) s mm args below meth c H locs 0 0 Z (F0 mm p1 ls (S'.map (tv X)))) → (B → W p (xl X) e (rmm d) s mm args below meth c H locs 0 0 Z (F0 mm p2 ls (S'.map (tv X)))) → W p (xl X) e (rmm d) s mm args below meth c H locs 0 0 Z (F0 mm pc ls (S.map (tv X))))
    (h1 : A → V X d m p1 L S' M Q) (h2 : B → V X d m p2 L S' M Q) : V X d m pc L S M Q := by
  intro p e s mm args below meth c H locs ls C
  obtain ⟨hm, hG, hP, hS, hL, hl, hoL, hoS⟩ := C
  exact row p e s mm args below meth c H locs ls _ hm (fun z => h1 z p e s mm args below meth c H locs ls ⟨hm, hG, hP, hS, hL, hl, hoL, hok hoS⟩) (fun z => h2 z p e s mm args below meth c H locs ls ⟨hm, hG, hP, hS, hL, hl, hoL, hok hoS⟩)
/-! an instruction that changes a local -/
theorem V.loc {X : Cx} {d m pc pc' : Nat} {L L' : Lc} {S S' : List Vl} {M : Mem} {Q : Option Vl → Mem → Prop} (hlen : L'.length = L.length) (hok : okL L → okS S → okL L' ∧ okS S')
    (row : ∀ (p : Program) (e : Env) (s : State) (mm : MethodId) (args : Array Value) (below : List Frame) (meth : Method) (c : Code) (H : Heap) (locs : List Loc) (ls : Array Slot) (Z : State → Prop), MC m p s mm args meth c → LV X (qml m) L ls →
      (∀ ls', LV X (qml m) L' ls' → W p (xl X) e (rmm d) s mm args below meth c H locs 0 0 Z (F0 mm pc' ls' (S'.map (tv X)))) → W p (xl X) e (rmm d) s mm args below meth c H locs 0 0 Z (F0 mm pc ls (S.map (tv X))))
    (h : V X d m pc' L' S' M Q) : V X d m pc L S M Q := by
  intro p e s mm args below meth c H locs ls C
  obtain ⟨hm, hG, hP, hS, hL, hl, hoL, hoS⟩ := C
  obtain ⟨o1, o2⟩ := hok hoL hoS
  exact row p e s mm args below meth c H locs ls _ hm hL (fun ls' hL' => h p e s mm args below meth c H locs ls' ⟨hm, hG, hP, hS, hL', hlen.trans hl, o1, o2⟩)
/-! an instruction that changes the memory -/
theorem V.mem {X : Cx} {d m pc pc' : Nat} {L : Lc} {S S' : List Vl} {M M' : Mem} {Q : Option Vl → Mem → Prop} (hok : okS S → okS S')
    (row : ∀ (p : Program) (e : Env) (s : State) (mm : MethodId) (args : Array Value) (below : List Frame) (meth : Method) (c : Code) (H : Heap) (locs : List Loc) (ls : Array Slot) (Z : State → Prop), MC m p s mm args meth c → Gd X s s.heap → Rp X M H → va_S (inW X) s.heap H locs → LV X (qml m) L ls → okS S →
      (∀ H1 locs1, Rp X M' H1 → va_S (inW X) s.heap H1 locs1 → W p (xl X) e (rmm d) s mm args below meth c H1 locs1 0 0 Z (F0 mm pc' ls (S'.map (tv X)))) → W p (xl X) e (rmm d) s mm args below meth c H locs 0 0 Z (F0 mm pc ls (S.map (tv X))))
    (h : V X d m pc' L S' M' Q) : V X d m pc L S M Q := by
  intro p e s mm args below meth c H locs ls C
  obtain ⟨hm, hG, hP, hS, hL, hl, hoL, hoS⟩ := C
  exact row p e s mm args below meth c H locs ls _ hm hG hP hS hL hoS (fun H1 locs1 hP1 hS1 => h p e s mm args below meth c H1 locs1 ls ⟨hm, hG, hP1, hS1, hL, hl, hoL, hok hoS⟩)
theorem s_cnd {X : Cx} {d m pc t : Nat} {L : Lc} {S' : List Vl} {M : Mem} {Q : Option Vl → Mem → Prop} {cd : Jvm.ClassFile.Cond} {f : Int} {a b : Int32} (hd : decode (qbt m) pc = .ok (.if_icmp cd f, 3)) (ht : (pc : Int) + f = (t : Int))
    (h : cnd (qcc cd) a b (V X d m t L S' M Q) (V X d m (pc + 3) L S' M Q)) : V X d m pc L (vI b :: vI a :: S') M Q := by
  have hok : okS (vI b :: vI a :: S') → okS S' := fun h => okS_tail (okS_tail h)
  cases cd
  · exact V.two hok (fun p e s mm args below meth c H locs ls Z hm k1 k2 => lv_icmp_eq hm.1 hm.2.1 hd ht k1 k2) h.1 h.2
  · exact V.two hok (fun p e s mm args below meth c H locs ls Z hm k1 k2 => lv_icmp_ne hm.1 hm.2.1 hd ht k1 k2) h.1 h.2
  · exact V.two hok (fun p e s mm args below meth c H locs ls Z hm k1 k2 => lv_icmp_lt hm.1 hm.2.1 hd ht k1 k2) h.1 h.2
  · exact V.two hok (fun p e s mm args below meth c H locs ls Z hm k1 k2 => lv_icmp_ge hm.1 hm.2.1 hd ht k1 k2) h.1 h.2
  · exact V.two hok (fun p e s mm args below meth c H locs ls Z hm k1 k2 => lv_icmp_gt hm.1 hm.2.1 hd ht k1 k2) h.1 h.2
  · exact V.two hok (fun p e s mm args below meth c H locs ls Z hm k1 k2 => lv_icmp_le hm.1 hm.2.1 hd ht k1 k2) h.1 h.2
theorem s_if {X : Cx} {d m pc t : Nat} {L : Lc} {S' : List Vl} {M : Mem} {Q : Option Vl → Mem → Prop} {cd : Jvm.ClassFile.Cond} {f : Int} {a : Int32} (hd : decode (qbt m) pc = .ok (.ifCond cd f, 3)) (ht : (pc : Int) + f = (t : Int))
    (h : cnd (qcc cd) a 0 (V X d m t L S' M Q) (V X d m (pc + 3) L S' M Q)) : V X d m pc L (vI a :: S') M Q := by
  have hok : okS (vI a :: S') → okS S' := fun h => okS_tail h
  cases cd
  · exact V.two hok (fun p e s mm args below meth c H locs ls Z hm k1 k2 => lv_if_eq hm.1 hm.2.1 hd ht k1 k2) h.1 h.2
  · exact V.two hok (fun p e s mm args below meth c H locs ls Z hm k1 k2 => lv_if_ne hm.1 hm.2.1 hd ht k1 k2) h.1 h.2
  · exact V.two hok (fun p e s mm args below meth c H locs ls Z hm k1 k2 => lv_if_lt hm.1 hm.2.1 hd ht k1 k2) h.1 h.2
  · exact V.two hok (fun p e s mm args below meth c H locs ls Z hm k1 k2 => lv_if_ge hm.1 hm.2.1 hd ht k1 k2) h.1 h.2
  · exact V.two hok (fun p e s mm args below meth c H locs ls Z hm k1 k2 => lv_if_gt hm.1 hm.2.1 hd ht k1 k2) h.1 h.2
  · exact V.two hok (fun p e s mm args below meth c H locs ls Z hm k1 k2 => lv_if_le hm.1 hm.2.1 hd ht k1 k2) h.1 h.2
theorem swt_tab {X : Cx} {a : Int32} {k : Nat → Prop} {t pc : Nat} : ∀ (tb : List (Int32 × Nat)) (lo : Int) (offs : List Int), swTab pc lo offs tb = true → swt a k t tb →
    (∃ (i g : Nat) (f : Int), a.toInt = lo + i ∧ offs[i]? = some f ∧ (pc : Int) + f = (g : Int) ∧ k g) ∨ ((a.toInt < lo ∨ lo + offs.length ≤ a.toInt) ∧ k t)
  | [], lo, offs, h, hs => by
    unfold swTab at h
    have : offs = [] := List.isEmpty_iff.mp h
    subst this
    right
    refine ⟨?_, hs⟩
    simp
    omega
  | (v, g) :: r, lo, [], h, hs => by simp [swTab] at h
  | (v, g) :: r, lo, f :: fs, h, hs => by
    simp only [swTab, Bool.and_eq_true, decide_eq_true_eq] at h
    obtain ⟨⟨h1, h2⟩, h3⟩ := h
    obtain ⟨s1, s2⟩ := hs
    by_cases hav : a = v
    · left
      subst hav
      exact ⟨0, g, f, by omega, rfl, h2, s1 rfl⟩
    · have hne : a.toInt ≠ lo := fun z => hav (Int32.toInt_inj.mp (z.trans h1.symm))
      rcases swt_tab (X := X) r (lo + 1) fs h3 (s2 hav) with ⟨i, g', f', q1, q2, q3, q4⟩ | ⟨q1, q2⟩
      · left
        refine ⟨i + 1, g', f', by push_cast; omega, ?_, q3, q4⟩
        simpa using q2
      · right
        refine ⟨?_, q2⟩
        simp only [List.length_cons]
        push_cast
        omega
theorem swt_look {a : Int32} {k : Nat → Prop} {t pc : Nat} {df : Int} (hdf : (pc : Int) + df = (t : Int)) : ∀ (ps : List (Int × Int)) (tb : List (Int32 × Nat)), swLook pc ps tb = true → swt a k t tb → ∃ (g : Nat) (f : Int), Op.lookupswitch.offset ps df a.toInt = f ∧ (pc : Int) + f = (g : Int) ∧ k g
  | [], [], _, hs => ⟨t, df, rfl, hdf, hs⟩
  | [], _ :: _, h, _ => by simp [swLook] at h
  | _ :: _, [], h, _ => by simp [swLook] at h
  | (x, f) :: ps, (v, g) :: r, h, hs => by
    simp only [swLook, Bool.and_eq_true, decide_eq_true_eq] at h
    obtain ⟨⟨h1, h2⟩, h3⟩ := h
    obtain ⟨s1, s2⟩ := hs
    by_cases hav : a = v
    · subst hav
      refine ⟨g, f, ?_, h2, s1 rfl⟩
      simp [Op.lookupswitch.offset, h1]
    · obtain ⟨g', f', q1, q2, q3⟩ := swt_look hdf ps r h3 (s2 hav)
      exact ⟨g', f', by rw [lv_osw hav h1]; exact q1, q2, q3⟩
