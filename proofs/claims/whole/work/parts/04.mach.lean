/-! A small machine over columns: a cell of the world is (column, instance); ints lie in M.1 column instance slot, longs in M.2. -/
abbrev Mem : Type := (Nat → Nat → Nat → Int32) × (Nat → Nat → Nat → Int64)
abbrev Lc : Type := List (Option Vl)
abbrev Cx : Type := Launch × va_G × (Nat → Nat → Nat) × (Nat → ClassId) × (Nat → Nat) × (Nat → Nat)
abbrev xl (X : Cx) : Launch := X.1
abbrev xD (X : Cx) : va_G := X.2.1
abbrev xa (X : Cx) : Nat → Nat → Nat := X.2.2.1
abbrev xc (X : Cx) : Nat → ClassId := X.2.2.2.1
abbrev xk (X : Cx) : Nat → Nat := X.2.2.2.2.1
abbrev xv (X : Cx) : Nat → Nat := X.2.2.2.2.2
abbrev vI (x : Int32) : Vl := .inl x
abbrev vJ (x : Int64) : Vl := .inr (.inl x)
abbrev vR (c a : Nat) : Vl := .inr (.inr (c, a))
def tv (X : Cx) : Vl → Value
  | .inl x => .int x
  | .inr (.inl y) => .long y
  | .inr (.inr (0, _)) => .null
  | .inr (.inr (1, a)) => .ref (xk X a)
  | .inr (.inr (c + 2, a)) => .ref (xa X (c + 2) a)
def st (M : Mem) (c a j : Nat) (x : Int32) : Mem := (fun c' a' j' => if c' = c ∧ a' = a ∧ j' = j then x else M.1 c' a' j', M.2)
def stL (M : Mem) (c a j : Nat) (x : Int64) : Mem := (M.1, fun c' a' j' => if c' = c ∧ a' = a ∧ j' = j then x else M.2 c' a' j')
def cpy (M : Mem) (c0 a0 c a sp dp n : Nat) : Mem := (fun c' a' j' => if c' = c ∧ a' = a ∧ dp ≤ j' ∧ j' < dp + n then M.1 c0 a0 (sp + (j' - dp)) else M.1 c' a' j', M.2)
def ix (i : Int32) : Nat := i.toNatClampNeg
def inb (i : Int32) (n : Nat) : Prop := ¬ (i < 0 ∨ n ≤ i.toNatClampNeg)
def isB (x : Int32) : Prop := x = 0 ∨ x = 1
def qfv (X : Cx) (M : Mem) (c a j : Nat) (f : Nat × Nat × Nat) : Value :=
  match f.1 with
  | 0 => .int (M.1 c a j)
  | 1 => .int (M.1 c a j)
  | 2 => .ref (xa X f.2.1 a)
  | _ => .ref (xa X f.2.1 f.2.2)
def qent (X : Cx) (M : Mem) (c a : Nat) : va_E :=
  match (qcol c).1 with
  | 0 => .inr ((qcol c).2.1, (qcol c).2.2.mapIdx (fun j f => qfv X M c a j f))
  | 1 => .inl (xc X 0, (qcol c).2.1, .inl (M.1 c a))
  | 2 => .inl (xc X 1, (qcol c).2.1, .inl (M.1 c a))
  | 3 => .inl (xc X 2, (qcol c).2.1, .inr (.inl (M.2 c a)))
  | _ => .inl (xc X 3, (qcol c).2.1, .inr (.inr (.inr (.inr (fun i => some (xa X ((qcol c).2.2.getD 0 (0, 0, 0)).2.1 (((qcol c).2.2.getD 0 (0, 0, 0)).2.2 + i)))))))
def qwl (X : Cx) (M : Mem) : va_W := qPAIRS.map (fun p => (xa X p.1 p.2, qent X M p.1 p.2))
def qtys (X : Cx) : List (ClassId × FieldType) := [(xc X 0, .int), (xc X 1, .boolean), (xc X 2, .long), (xc X 3, .object "ClayBoots$Shire")]
def inW (X : Cx) : Nat → Prop := fun q => ∃ p ∈ qPAIRS, q = xa X p.1 p.2
def XD (X : Cx) : Prop := ∀ p ∈ qPAIRS, ∀ r ∈ qPAIRS, xa X p.1 p.2 = xa X r.1 r.2 → p = r
def Rp (X : Cx) (M : Mem) (H : Heap) : Prop := va_P (xD X) qcl (qwl X M) H
def qSlen : List Nat := qST.map (fun z => z.2.2.length)
def qSbyt : List (List Int32) := qST.map (fun z => z.2.2.toList.map (fun c => Int32.ofNat c.toNat))
/-- what is given of tables, texts and statics; U and H: a state and a heap in which the texts lie -/
def Gd (X : Cx) (U : State) (H : Heap) : Prop :=
  XD X ∧ va_K (xD X) qcl (qtys X) U ∧ (∀ w ∈ qNW, va_Nw w U) ∧ (∀ (i : Nat) (z : Nat × Nat × String), qST[i]? = some z → vk_R (qcn z.1) z.2.1 z.2.2 (xk X i) U) ∧
  vk_S 24 qSlen qSbyt (xk X) (xv X) (inW X) U H ∧ va_Z "java/lang/String" "COMPACT_STRINGS" "Z" (.int 1) (inW X) U H ∧ ∃ vF : Value, (vF = .null ∨ ∃ aF : Nat, vF = .ref aF) ∧ va_Z "jdk/internal/util/Preconditions" "SIOOBE_FORMATTER" "Ljava/util/function/BiFunction;" vF (inW X) U H
theorem qNW_warm {w : Cond} (hw : w ∈ qNW) {s U : State} (hW : s.WarmedH U.vm) (h : va_Nw w s) : va_Nw w U := by
  have : ∃ a i x hh, w = .methodLinkNest a i x hh := by
    simp only [qNW, List.mem_cons, List.not_mem_nil, or_false] at hw
    rcases hw with h | h | h | h | h | h | h | h | h | h | h | h | h | h | h | h <;> exact ⟨_, _, _, _, h⟩
  obtain ⟨a, i, x, hh, rfl⟩ := this
  exact va_Nw.warmM hW h
theorem Gd.move {X : Cx} {s U : State} {H H1 : Heap} (hW : s.WarmedH U.vm) (hk : ∀ q : Nat, q < H.size → ¬ inW X q → H1[q]? = H[q]?) (h : Gd X s H) : Gd X U H1 := by
  obtain ⟨h1, h2, h3, h4, h5, h6, vF, hvF, h7⟩ := h
  exact ⟨h1, va_K.moved hW.alike h2, fun w hw => qNW_warm hw hW (h3 w hw), fun i z hz => vk_R.warm hW (h4 i z hz), (vk_S.moved hW.alike h5).kept hk, (va_Z.moved hW.alike h6).kept hk, vF, hvF, (va_Z.moved hW.alike h7).kept hk⟩
theorem Gd.same {X : Cx} {s U : State} {H : Heap} (hv : U.vm = s.vm) (h : Gd X s H) : Gd X U H := by
  obtain ⟨h1, h2, h3, h4, h5, h6, vF, hvF, h7⟩ := h
  have ha : s.vm.Alike U.vm := by rw [hv]; exact Vm.Alike.refl s.vm
  refine ⟨h1, va_K.moved ha h2, fun w hw => va_Nw.same ?_ hv.symm (h3 w hw), fun i z hz => vk_R.same hv (h4 i z hz), vk_S.moved ha h5, va_Z.moved ha h6, vF, hvF, va_Z.moved ha h7⟩
  simp only [qNW, List.mem_cons, List.not_mem_nil, or_false] at hw
  rcases hw with h | h | h | h | h | h | h | h | h | h | h | h | h | h | h | h <;> (rw [h]; rfl)
def okV : Vl → Prop
  | .inr (.inr (c, a)) => c = 0 ∨ (c = 1 ∧ a < 24) ∨ (c, a) ∈ qPAIRS
  | _ => True
def okS (S : List Vl) : Prop := ∀ v ∈ S, okV v
def okL (L : Lc) : Prop := ∀ v, some v ∈ L → okV v
def okR : Option Vl → Prop
  | some (.inr (.inr _)) => False
  | _ => True
def rmm (d : Nat) : Room := { frames := d, cells := 0, slots := 0, locals := 100 * d + 100 }
/-- method m, called with args in the memory M, returns r in the memory M2 -/
def CC (X : Cx) (d m : Nat) (args : List Vl) (M : Mem) (r : Option Vl) (M2 : Mem) : Prop :=
  okR r ∧ (okS args → Met (xl X) (qyn m) (Cond.code (qyn m) (qbt m) (qml m) (qrt m) :: qgw) (rmm d) (va_Pc (args.map (tv X)) (fun U => Gd X U U.heap ∧ Rp X M U.heap))
    (fun _ st o t => o = .returned (r.map (tv X)) ∧ Rp X M2 t.heap ∧ va_F (inW X) st t) 0 0 (inW X))
def LV (X : Cx) (n : Nat) (L : Lc) (ls : Array Slot) : Prop := ls.size = n ∧ lv_wf ls ∧ ∀ (i : Nat) (v : Vl), L[i]? = some (some v) → ls[i]? = some (.val (tv X v))
def QC (X : Cx) (Q : Option Vl → Mem → Prop) : Array Value → State → Outcome → State → Prop := fun _ st o t => ∃ (r : Option Vl) (M2 : Mem), o = .returned (r.map (tv X)) ∧ Q r M2 ∧ Rp X M2 t.heap ∧ va_F (inW X) st t
def MC (m : Nat) (p : Program) (s : State) (mm : MethodId) (args : Array Value) (meth : Method) (c : Code) : Prop :=
  p.tables.exec = Jvm.exec ∧ c.code = qbt m ∧ meth.sig.returnType = qrt m ∧ c.maxLocals = qml m ∧ s.vm.findClass (qcn (qow m)) = some mm.cls ∧ (∀ w ∈ qgw, w.before args s = true) ∧ meth.locks = false
def Ct (X : Cx) (m : Nat) (p : Program) (s : State) (mm : MethodId) (args : Array Value) (meth : Method) (c : Code) (H : Heap) (locs : List Loc) (ls : Array Slot) (L : Lc) (S : List Vl) (M : Mem) : Prop :=
  MC m p s mm args meth c ∧ Gd X s s.heap ∧ Rp X M H ∧ va_S (inW X) s.heap H locs ∧ LV X (qml m) L ls ∧ L.length = qml m ∧ okL L ∧ okS S
/-- from here method m comes to its end, with Q -/
def V (X : Cx) (d m pc : Nat) (L : Lc) (S : List Vl) (M : Mem) (Q : Option Vl → Mem → Prop) : Prop :=
  ∀ (p : Program) (e : Env) (s : State) (mm : MethodId) (args : Array Value) (below : List Frame) (meth : Method) (c : Code) (H : Heap) (locs : List Loc) (ls : Array Slot),
    Ct X m p s mm args meth c H locs ls L S M → W p (xl X) e (rmm d) s mm args below meth c H locs 0 0 (MQ below (QC X Q) args s 0 0 (inW X)) (F0 mm pc ls (S.map (tv X)))
/-! the steps -/
def gI (o : Option Vl) (f : Int32 → Prop) : Prop := match o with | some (.inl v) => f v | _ => False
def gR (o : Option Vl) (f : Nat → Nat → Prop) : Prop := match o with | some (.inr (.inr (c, a))) => f c a | _ => False
def gJ (o : Option Vl) (f : Int64 → Prop) : Prop := match o with | some (.inr (.inl v)) => f v | _ => False
def bB (b : Bool) (p : Prop) : Prop := match b with | true => p | false => False
def tI (S : List Vl) (f : Int32 → List Vl → Prop) : Prop := match S with | .inl x :: S' => f x S' | _ => False
def tJ (S : List Vl) (f : Int64 → List Vl → Prop) : Prop := match S with | .inr (.inl x) :: S' => f x S' | _ => False
def tR (S : List Vl) (f : Nat → Nat → List Vl → Prop) : Prop := match S with | .inr (.inr (c, a)) :: S' => f c a S' | _ => False
def tII (S : List Vl) (f : Int32 → Int32 → List Vl → Prop) : Prop := match S with | .inl y :: .inl x :: S' => f x y S' | _ => False
def tJJ (S : List Vl) (f : Int64 → Int64 → List Vl → Prop) : Prop := match S with | .inr (.inl y) :: .inr (.inl x) :: S' => f x y S' | _ => False
def tIR (S : List Vl) (f : Nat → Nat → Int32 → List Vl → Prop) : Prop := match S with | .inl i :: .inr (.inr (c, a)) :: S' => f c a i S' | _ => False
def tXR (S : List Vl) (f : Nat → Nat → Int32 → List Vl → Prop) : Prop := match S with | .inl x :: .inr (.inr (c, a)) :: S' => f c a x S' | _ => False
def tIIR (S : List Vl) (f : Nat → Nat → Int32 → Int32 → List Vl → Prop) : Prop := match S with | .inl x :: .inl i :: .inr (.inr (c, a)) :: S' => f c a i x S' | _ => False
def tJIR (S : List Vl) (f : Nat → Nat → Int32 → Int64 → List Vl → Prop) : Prop := match S with | .inr (.inl x) :: .inl i :: .inr (.inr (c, a)) :: S' => f c a i x S' | _ => False
def tCP (S : List Vl) (f : Nat → Nat → Nat → Nat → Int32 → Int32 → Int32 → List Vl → Prop) : Prop := match S with | .inl n :: .inl dp :: .inr (.inr (c, a)) :: .inl sp :: .inr (.inr (c0, a0)) :: S' => f c0 a0 c a sp dp n S' | _ => False
def nl (L : Lc) (t : Nat) : Bool := match t with | 0 => true | t' + 1 => match L.getD t' none with | some (.inr (.inl _)) => false | _ => true
def c1 : Vl → Bool | .inr (.inl _) => false | _ => true
def qcat : Vl → Nat | .inr (.inl _) => 2 | _ => 1
def rcv (ci : Nat) (A : List Vl) : Bool := match A with | .inr (.inr (c, _)) :: _ => (Nat.ble 2 c && Nat.beq (qcol c).1 0 && Nat.beq (qcol c).2.1 ci) || (Nat.beq c 1 && Nat.beq ci 14) | _ => false
def cnd (u : Nat) (a b : Int32) (A B : Prop) : Prop :=
  match u with
  | 0 => (a = b → A) ∧ (¬ a = b → B)
  | 1 => (¬ a = b → A) ∧ (a = b → B)
  | 2 => (a < b → A) ∧ (¬ a < b → B)
  | 3 => (b ≤ a → A) ∧ (¬ b ≤ a → B)
  | 4 => (b < a → A) ∧ (¬ b < a → B)
  | _ => (a ≤ b → A) ∧ (¬ a ≤ b → B)
def swt (a : Int32) (k : Nat → Prop) (t : Nat) : List (Int32 × Nat) → Prop
  | [] => k t
  | (v, g) :: r => (a = v → k g) ∧ (¬ a = v → swt a k t r)
def cR (kd : Nat) (f : Option Vl → Mem → Prop) : Prop := match kd with | 0 => ∃ M', f none M' | 1 => ∃ (x : Int32) (M' : Mem), f (some (vI x)) M' | _ => ∃ (x : Int64) (M' : Mem), f (some (vJ x)) M'
def wp1 (X : Cx) (d : Nat) (op : Nat) (x : Int32) (t u : Nat) (tb : List (Int32 × Nat)) (npc : Nat) (L : Lc) (S : List Vl) (M : Mem) (Q : Option Vl → Mem → Prop) (k : Nat → Lc → List Vl → Mem → Prop) : Prop :=
  match op with
  | 0 => k npc L (vI x :: S) M
  | 1 => gI (L.getD t none) (fun v => k npc L (vI v :: S) M)
  | 2 => gR (L.getD t none) (fun c a => k npc L (vR c a :: S) M)
  | 3 => gJ (L.getD t none) (fun v => k npc L (vJ v :: S) M)
  | 4 => bB (nl L t) (tI S (fun v S' => k npc (L.set t (some (vI v))) S' M))
  | 5 => bB (nl L t) (tR S (fun c a S' => k npc (L.set t (some (vR c a))) S' M))
  | 6 => bB (nl L t) (tJ S (fun v S' => k npc ((L.set t (some (vJ v))).set (t + 1) none) S' M))
  | 7 => bB (nl L t) (gI (L.getD t none) (fun v => k npc (L.set t (some (vI (v + x)))) S M))
  | 8 => match t with
    | 0 => tII S (fun a b S' => k npc L (vI (a + b) :: S') M)
    | 1 => tII S (fun a b S' => k npc L (vI (a - b) :: S') M)
    | 2 => tII S (fun a b S' => k npc L (vI (a * b) :: S') M)
    | 3 => tII S (fun a b S' => k npc L (vI (a &&& b) :: S') M)
    | 4 => tII S (fun a b S' => k npc L (vI (a ||| b) :: S') M)
    | 5 => tII S (fun a b S' => k npc L (vI (a ^^^ b) :: S') M)
    | 6 => tII S (fun a b S' => k npc L (vI (a <<< (b &&& 31)) :: S') M)
    | 7 => tII S (fun a b S' => k npc L (vI (a >>> (b &&& 31)) :: S') M)
    | _ => tII S (fun a b S' => k npc L (vI ((a.toUInt32 >>> (b.toUInt32 &&& Int32.toUInt32 31)).toInt32) :: S') M)
  | 9 => tII S (fun a b S' => ¬ b = 0 ∧ k npc L (vI (a / b) :: S') M)
  | 10 => tII S (fun a b S' => ¬ b = 0 ∧ k npc L (vI (a % b) :: S') M)
  | 11 => match t with
    | 0 => tJJ S (fun a b S' => k npc L (vJ (a + b) :: S') M)
    | _ => tJJ S (fun a b S' => k npc L (vJ (a * b) :: S') M)
  | 12 => tJJ S (fun a b S' => ¬ b = 0 ∧ k npc L (vJ (a % b) :: S') M)
  | 13 => tI S (fun a S' => k npc L (vJ a.toInt64 :: S') M)
  | 14 => tJ S (fun a S' => k npc L (vI a.toInt32 :: S') M)
  | 15 => match S with
    | v :: S' => bB (c1 v) (k npc L (v :: v :: S') M)
    | _ => False
  | 16 => match S with
    | v :: w :: S' => bB (c1 v && c1 w) (k npc L (v :: w :: v :: w :: S') M)
    | _ => False
  | 17 => match S with
    | v :: S' => bB (c1 v) (k npc L S' M)
    | _ => False
  | 18 => k t L S M
  | 19 => tI S (fun a S' => cnd u a 0 (k t L S' M) (k npc L S' M))
  | 20 => tII S (fun a b S' => cnd u a b (k t L S' M) (k npc L S' M))
  | 21 => tR S (fun c _ S' => match c with | 0 => k t L S' M | _ => k npc L S' M)
  | 22 => tR S (fun c _ S' => match c with | 0 => k npc L S' M | _ => k t L S' M)
  | 23 => tI S (fun a S' => swt a (fun g => k g L S' M) t tb)
  | 24 => tR S (fun c a S' => bB (Nat.ble 2 c && Nat.beq (qcol c).1 0 && Nat.beq (qcol c).2.1 u) (match (qcol c).2.2[t]? with
    | some (0, _, _) => k npc L (vI (M.1 c a t) :: S') M
    | some (1, _, _) => k npc L (vI (M.1 c a t) :: S') M
    | some (2, c', _) => k npc L (vR c' a :: S') M
    | some (3, c', a') => k npc L (vR c' a' :: S') M
    | _ => False))
  | 25 => tXR S (fun c a x S' => bB (Nat.ble 2 c && Nat.beq (qcol c).1 0 && Nat.beq (qcol c).2.1 u) (match (qcol c).2.2[t]? with
    | some (0, _, _) => ∀ M', M' = st M c a t x → k npc L S' M'
    | some (1, _, _) => isB x ∧ ∀ M', M' = st M c a t x → k npc L S' M'
    | _ => False))
  | 26 => tIR S (fun c a i S' => bB (Nat.beq (qcol c).1 1) (inb i (qcol c).2.1 ∧ k npc L (vI (M.1 c a (ix i)) :: S') M))
  | 27 => tIIR S (fun c a i x S' => bB (Nat.beq (qcol c).1 1) (inb i (qcol c).2.1 ∧ ∀ M', M' = st M c a (ix i) x → k npc L S' M'))
  | 28 => tIR S (fun c a i S' => bB (Nat.beq (qcol c).1 2) (inb i (qcol c).2.1 ∧ k npc L (vI (M.1 c a (ix i)) :: S') M))
  | 29 => tIIR S (fun c a i x S' => bB (Nat.beq (qcol c).1 2) (inb i (qcol c).2.1 ∧ isB x ∧ ∀ M', M' = st M c a (ix i) x → k npc L S' M'))
  | 30 => tIR S (fun c a i S' => bB (Nat.beq (qcol c).1 3) (inb i (qcol c).2.1 ∧ k npc L (vJ (M.2 c a (ix i)) :: S') M))
  | 31 => tJIR S (fun c a i x S' => bB (Nat.beq (qcol c).1 3) (inb i (qcol c).2.1 ∧ ∀ M', M' = stL M c a (ix i) x → k npc L S' M'))
  | 32 => tIR S (fun c _ i S' => bB (Nat.beq (qcol c).1 4) (inb i (qcol c).2.1 ∧ match (qcol c).2.2 with | (_, c', a') :: _ => k npc L (vR c' (a' + ix i) :: S') M | _ => False))
  | 33 => tR S (fun c _ S' => bB (Nat.beq (qcol c).1 1) (k npc L (vI (Int32.ofNat (qcol c).2.1) :: S') M))
  | 34 => match S with | [.inl v] => Q (some (vI v)) M | _ => False
  | 35 => match S with | [.inl v] => isB v ∧ Q (some (vI v)) M | _ => False
  | 36 => match S with | [.inr (.inl v)] => Q (some (vJ v)) M | _ => False
  | 37 => match S with | [] => Q none M | _ => False
  | 38 => bB (Nat.ble u S.length && Nat.ble ((S.drop u).map qcat).sum 8) (cR (tb.getD 1 (0, 0)).2 (fun r M' => CC X d t (S.take u).reverse M r M' ∧ k npc L (r.toList ++ S.drop u) M'))
  | 39 => match t with
    | 0 => bB (Nat.ble (S.map qcat).sum 20) (tII S (fun a b S' => k npc L (vI (if a < b then b else a) :: S') M))
    | 1 => bB (Nat.ble (S.map qcat).sum 20) (tII S (fun a b S' => k npc L (vI (if b < a then b else a) :: S') M))
    | _ => bB (Nat.ble (S.map qcat).sum 20) (tI S (fun a S' => k npc L (vI (if 0 ≤ a then a else 0 - a) :: S') M))
  | 40 => bB (Nat.ble (S.map qcat).sum 20) (tCP S (fun c0 a0 c a sp dp n S' => bB (Nat.beq (qcol c0).1 1 && Nat.beq (qcol c).1 1) (¬ sp < 0 ∧ ¬ dp < 0 ∧ ¬ n < 0 ∧ ix sp + ix n ≤ (qcol c0).2.1 ∧ ix dp + ix n ≤ (qcol c).2.1 ∧ ∀ M', M' = cpy M c0 a0 c a (ix sp) (ix dp) (ix n) → k npc L S' M')))
  | 41 => k npc L (vR 1 t :: S) M
  | 42 => k npc L (vJ (Int64.ofNat t) :: S) M
  | 43 => k npc L (vR 0 0 :: S) M
  | 44 => bB (Nat.ble u S.length && Nat.ble ((S.drop u).map qcat).sum 8 && rcv (tb.getD 0 (0, 0)).2 (S.take u).reverse) (cR (tb.getD 1 (0, 0)).2 (fun r M' => CC X d t (S.take u).reverse M r M' ∧ k npc L (r.toList ++ S.drop u) M'))
  | _ => False
def qfetch : List En → Nat → Option (Nat × Nat × Int32 × Nat × Nat × List (Int32 × Nat))
  | [], _ => none
  | e :: r, pc => match Nat.beq e.1 pc with
    | true => some e.2
    | false => qfetch r pc
def qcut : List (Nat × List Bool) → Nat → Option (List Bool)
  | [], _ => none
  | e :: r, pc => match Nat.beq e.1 pc with
    | true => some e.2
    | false => qcut r pc
def qmask : List Bool → Lc → Lc
  | true :: bs, o :: L => o :: qmask bs L
  | false :: bs, _ :: L => none :: qmask bs L
  | _, L => L
def wpn (X : Cx) (d m : Nat) (cd : List En) (cuts : List (Nat × List Bool)) : Nat → Nat → Lc → List Vl → Mem → (Option Vl → Mem → Prop) → Prop
  | 0, _, _, _, _, _ => False
  | n + 1, pc, L, S, M, Q =>
    match qfetch cd pc with
    | some (npc, op, x, t, u, tb) => wp1 X d op x t u tb npc L S M Q (fun pc' L' S' M' => match qcut cuts pc' with
      | some mask => V X (d + 1) m pc' (qmask mask L') S' M' Q
      | none => wpn X d m cd cuts n pc' L' S' M' Q)
    | none => False
