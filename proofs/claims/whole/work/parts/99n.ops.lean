/-! every op keeps the invariant -/
def Sm (X : Cx) (m r : Nat) (as : List Vl) (B : Nat) (M : Mem) : Prop := ∃ (x : Int32) (M1 M2 : Mem), CC X 41 m (vR 2 0 :: as) M (some (vI x)) M1 ∧ CC X 41 r (vR 100 0 :: as) M1 (some (vI x)) M2 ∧ Inv (B + 151200) M2
theorem Inv.up {B : Nat} {M : Mem} (h : Inv B M) : Inv (B + 151200) M := h.mono (Nat.le_add_right _ _)
theorem Inv.landI {B : Nat} {M : Mem} (h : Inv B M) : LandI M := by
  obtain ⟨n, nx, lc, L, C, S, n5, n6, n7, t1, t2, t3, t4, t5, h1, -⟩ := h
  exact h1.wld.landI
theorem Inv.tls {B : Nat} {M : Mem} (h : Inv B M) : ∃ t1 t2 t3 t4 t5, TlS M 0 (M.1 101 0) t1 t2 t3 t4 t5 := by
  obtain ⟨n, nx, lc, L, C, S, n5, n6, n7, t1, t2, t3, t4, t5, h1, h2, h3, h4, -⟩ := h
  exact ⟨t1, t2, t3, t4, t5, h4⟩
theorem Inv.cap {B : Nat} {M : Mem} (h : Inv B M) : ∃ (lc : Nat) (L : Lw) (C : Cl) (S : Sk) (n5 n6 n7 : Nat), WldL B M lc ∧ VTn B (TM M) n5 n6 n7 ∧ LawC M 0 L ∧ LawM (M.1 101 0) L ∧ LawT L ∧ PlS M 0 (M.1 101 0) C S n5 n6 n7 ∧ M.1 11 1 3 = 1 ∧ M.1 30 1 0 = 0 := by
  obtain ⟨n, nx, lc, L, C, S, n5, n6, n7, t1, t2, t3, t4, t5, h1, h2, h3, h4, -, -, -, -, -, h10, h11, -⟩ := h
  exact ⟨lc, L, C, S, n5, n6, n7, h1.wld, h1.2.1, h2.1, h2.2.1, h2.2.2, h3, h10, h11⟩
theorem s110 {X : Cx} {B : Nat} {M : Mem} {q : Int32} (h : Inv B M) : Sm X 110 201 [vI q] B M := by
  obtain ⟨x, p1, p2⟩ := op110 (X := X) (d := 40) (M := M) (q := q) h.low.2.2.1 h.low.2.2.2
  exact ⟨x, M, M, p1, p2, h.up⟩
theorem s112 {X : Cx} {B : Nat} {M : Mem} {v q : Int32} (h : Inv B M) : Sm X 112 230 [vI v, vI q] B M := by
  obtain ⟨x, p1, p2⟩ := op112 (X := X) (d := 37) (M := M) (v := v) (q := q) h.landI
  exact ⟨x, M, M, p1, p2, h.up⟩
theorem s113 {X : Cx} {B : Nat} {M : Mem} {v q : Int32} (h : Inv B M) : Sm X 113 233 [vI v, vI q] B M := by
  obtain ⟨lc, L, C, S, n5, n6, n7, b1, b2, b3, b4, b5, b6, b7, b8⟩ := h.cap
  obtain ⟨x, p1, p2⟩ := op113 (X := X) (d := 37) (M := M) (v := v) (q := q) h.landI b6.2.2.2.2.2.2.1
  exact ⟨x, M, M, p1, p2, h.up⟩
theorem s115 {X : Cx} {B : Nat} {M : Mem} {v q : Int32} (h : Inv B M) : Sm X 115 235 [vI v, vI q] B M := by
  obtain ⟨lc, L, C, S, n5, n6, n7, b1, b2, b3, b4, b5, b6, b7, b8⟩ := h.cap
  obtain ⟨x, p1, p2⟩ := op115 (X := X) (d := 39) (M := M) (v := v) (q := q) b1.2.2.2
  exact ⟨x, M, M, p1, p2, h.up⟩
theorem s127 {X : Cx} {B : Nat} {M : Mem} {q : Int32} (h : Inv B M) : Sm X 127 248 [vI q] B M := by
  obtain ⟨t1, t2, t3, t4, t5, a1, a2, a3, a4, a5, a6, a7⟩ := h.tls
  obtain ⟨x, p1, p2⟩ := op127 (X := X) (d := 38) (M := M) (q := q) a7
  exact ⟨x, M, M, p1, p2, h.up⟩
theorem s129 {X : Cx} {B : Nat} {M : Mem} {v q : Int32} (h : Inv B M) : Sm X 129 251 [vI v, vI q] B M := by
  obtain ⟨t1, t2, t3, t4, t5, a1, a2, a3, a4, a5, a6, a7⟩ := h.tls
  obtain ⟨x, p1, p2⟩ := op129 (X := X) (d := 38) (M := M) (l := v) (r := q) a1
  exact ⟨x, M, M, p1, p2, h.up⟩
theorem s130 {X : Cx} {B : Nat} {M : Mem} {q : Int32} (h : Inv B M) : Sm X 130 252 [vI q] B M := by
  obtain ⟨t1, t2, t3, t4, t5, a1, a2, a3, a4, a5, a6, a7⟩ := h.tls
  obtain ⟨x, p1, p2⟩ := op130 (X := X) (d := 38) (M := M) (e := q) a1
  exact ⟨x, M, M, p1, p2, h.up⟩
theorem s136 {X : Cx} {B : Nat} {M : Mem} {q : Int32} (h : Inv B M) : Sm X 136 261 [vI q] B M := by
  obtain ⟨t1, t2, t3, t4, t5, a1, a2, a3, a4, a5, a6, a7⟩ := h.tls
  obtain ⟨x, p1, p2⟩ := op136 (X := X) (d := 38) (M := M) (q := q) a4
  exact ⟨x, M, M, p1, p2, h.up⟩
theorem s138 {X : Cx} {B : Nat} {M : Mem} {v : Int32} (h : Inv B M) : Sm X 138 266 [vI v] B M := by
  have e4 : M.1 20 0 0 = M.1 101 0 4 := congrFun (congrFun h.landI.1 20) 0
  obtain ⟨x, p1, p2⟩ := op138 (X := X) (d := 39) (M := M) (v := v) e4
  exact ⟨x, M, M, p1, p2, h.up⟩
theorem s139 {X : Cx} {B : Nat} {M : Mem} {u v : Int32} (h : Inv B M) : Sm X 139 267 [vI u, vI v] B M := by
  have e4 : M.1 20 0 0 = M.1 101 0 4 := congrFun (congrFun h.landI.1 20) 0
  obtain ⟨x, p1, p2⟩ := op139 (X := X) (d := 39) (M := M) (m := u) (v := v) e4
  exact ⟨x, M, M, p1, p2, h.up⟩
theorem s142 {X : Cx} {B : Nat} {M : Mem} {q : Int32} (h : Inv B M) : Sm X 142 271 [vI q] B M := by
  obtain ⟨x, p1, p2⟩ := op142 (X := X) (d := 38) (M := M) (q := q) h.landI
  exact ⟨x, M, M, p1, p2, h.up⟩
theorem Inv.lookI {B : Nat} {M : Mem} (h : Inv B M) : LookI M := by
  have hl := h.landI
  obtain ⟨n, nx, lc, L, C, S, n5, n6, n7, t1, t2, t3, t4, t5, h1, h2, h3, h4, h5, -⟩ := h
  exact ⟨hl, h1.2.2.2.2.1.trans h1.2.2.2.2.2.1.symm, h2.1.1.trans h2.2.1.1.symm, h3.1.1.trans h3.2.1.1.symm, h3.2.2.2.1.1.trans h3.2.2.2.2.1.1.symm, h3.2.2.2.2.2.2.2.1, h5.2.2.2.2.2.1.trans h5.2.2.2.2.2.2.1.symm⟩
theorem s145 {X : Cx} {B : Nat} {M : Mem} {q : Int32} (h : Inv B M) : Sm X 145 273 [vI q] B M := by
  obtain ⟨x, p1, p2⟩ := op145 (X := X) (d := 39) (M := M) (q := q) h.lookI
  exact ⟨x, M, M, p1, p2, h.up⟩
theorem s111 {X : Cx} {B : Nat} {M : Mem} {v q : Int32} (h : Inv B M) : Sm X 111 228 [vI v, vI q] B M := by
  obtain ⟨lc, L, C, S, n5, n6, n7, b1, b2, b3, b4, b5, b6, b7, b8⟩ := h.cap
  obtain ⟨x, M1, M2, p1, p2, p3⟩ := op111 (X := X) (d := 35) (M := M) (v := v) (q := q) h.landI b3 b4 b5
  exact ⟨x, M1, M2, p1, p2, (h.scr3 p3 (fun c a j z => by simp only [Scr] at z; simp only [ScP]; omega)).up⟩
theorem s114 {X : Cx} {B : Nat} {M : Mem} {u v q t : Int32} (h : Inv B M) : Sm X 114 234 [vI u, vI v, vI q, vI t] B M := by
  obtain ⟨lc, L, C, S, n5, n6, n7, b1, b2, b3, b4, b5, b6, b7, b8⟩ := h.cap
  obtain ⟨x, M1, M2, p1, p2, p3⟩ := op114 (X := X) (d := 35) (M := M) (u := u) (v := v) (q := q) (t := t) h.landI b3 b4 b5
  exact ⟨x, M1, M2, p1, p2, (h.scr3 p3 (fun c a j z => by simp only [Scr] at z; simp only [ScP]; omega)).up⟩
theorem s116 {X : Cx} {B : Nat} {M : Mem} {v q : Int32} (h : Inv B M) : Sm X 116 238 [vI v, vI q] B M := by
  obtain ⟨lc, L, C, S, n5, n6, n7, b1, b2, b3, b4, b5, b6, b7, b8⟩ := h.cap
  obtain ⟨x, M1, M2, p1, p2, p3⟩ := op116 (X := X) (d := 32) (M := M) (v := v) (q := q) b1 b2 b3 b4 b5 b6.1 b6.2.1 b6.2.2.1 b6.2.2.2.1 b6.2.2.2.2.1 b6.2.2.2.2.2.1 b7 b8
  exact ⟨x, M1, M2, p1, p2, (h.scr3 p3 (fun c a j z => by simp only [ThP, ThC, ThR] at z; simp only [ScP]; omega)).up⟩
theorem s117 {X : Cx} {B : Nat} {M : Mem} {u v q t : Int32} (h : Inv B M) : Sm X 117 240 [vI u, vI v, vI q, vI t] B M := by
  obtain ⟨lc, L, C, S, n5, n6, n7, b1, b2, b3, b4, b5, b6, b7, b8⟩ := h.cap
  obtain ⟨x, M1, M2, p1, p2, p3⟩ := op117 (X := X) (d := 33) (M := M) (u := u) (v := v) (q := q) (t := t) b1 b3 b4 b5 b7 b8
  exact ⟨x, M1, M2, p1, p2, (h.scr3 p3 (fun c a j z => by simp only [ThP, ThC, ThR] at z; simp only [ScP]; omega)).up⟩
theorem s118 {X : Cx} {B : Nat} {M : Mem} {u v q t : Int32} (h : Inv B M) : Sm X 118 241 [vI u, vI v, vI q, vI t] B M := by
  obtain ⟨lc, L, C, S, n5, n6, n7, b1, b2, b3, b4, b5, b6, b7, b8⟩ := h.cap
  obtain ⟨x, M1, M2, p1, p2, p3⟩ := op118 (X := X) (d := 33) (M := M) (u := u) (v := v) (q := q) (t := t) b1 b3 b4 b5 b7 b8
  exact ⟨x, M1, M2, p1, p2, (h.scr3 p3 (fun c a j z => by simp only [ThP, ThC, ThR] at z; simp only [ScP]; omega)).up⟩
theorem s119 {X : Cx} {B : Nat} {M : Mem} {u v q t : Int32} (h : Inv B M) : Sm X 119 243 [vI u, vI v, vI q, vI t] B M := by
  obtain ⟨lc, L, C, S, n5, n6, n7, b1, b2, b3, b4, b5, b6, b7, b8⟩ := h.cap
  obtain ⟨x, M1, M2, p1, p2, p3⟩ := op119 (X := X) (d := 33) (M := M) (u := u) (v := v) (q := q) (t := t) b1 b3 b4 b5 b7 b8
  exact ⟨x, M1, M2, p1, p2, (h.scr3 p3 (fun c a j z => by simp only [ThC, OrR, ThR] at z; simp only [ScP]; omega)).up⟩
theorem s125 {X : Cx} {B : Nat} {M : Mem} {q : Int32} (h : Inv B M) : Sm X 125 246 [vI q] B M := by
  obtain ⟨lc, L, C, S, n5, n6, n7, b1, b2, b3, b4, b5, b6, b7, b8⟩ := h.cap
  obtain ⟨t1, t2, t3, t4, t5, a1, a2, a3, a4, a5, a6, a7⟩ := h.tls
  obtain ⟨x, M1, M2, p1, p2, p3⟩ := op125 (X := X) (d := 38) (M := M) (q := q) b1 a6
  exact ⟨x, M1, M2, p1, p2, (h.scr3 p3 (fun c a j z => by simp only [ScP]; omega)).up⟩
theorem s132 {X : Cx} {B : Nat} {M : Mem} {v q : Int32} (h : Inv B M) : Sm X 132 255 [vI v, vI q] B M := by
  obtain ⟨t1, t2, t3, t4, t5, a1, a2, a3, a4, a5, a6, a7⟩ := h.tls
  obtain ⟨x, M1, M2, p1, p2, p3⟩ := op132 (X := X) (d := 38) (M := M) (v := v) (q := q) a2
  exact ⟨x, M1, M2, p1, p2, (h.scr3 p3 (fun c a j z => by simp only [ScP]; omega)).up⟩
theorem s134 {X : Cx} {B : Nat} {M : Mem} {v q : Int32} (h : Inv B M) : Sm X 134 258 [vI v, vI q] B M := by
  obtain ⟨t1, t2, t3, t4, t5, a1, a2, a3, a4, a5, a6, a7⟩ := h.tls
  obtain ⟨x, M1, M2, p1, p2, p3⟩ := op134 (X := X) (d := 38) (M := M) (v := v) (q := q) a3
  exact ⟨x, M1, M2, p1, p2, (h.scrK p3 (fun c a j z => by simp only [ScP]; omega)).up⟩
theorem s137 {X : Cx} {B : Nat} {M : Mem} {u v : Int32} (h : Inv B M) : Sm X 137 265 [vI u, vI v] B M := by
  obtain ⟨lc, L, C, S, n5, n6, n7, b1, b2, b3, b4, b5, b6, b7, b8⟩ := h.cap
  obtain ⟨x, M1, M2, p1, p2, p3⟩ := op137 (X := X) (d := 37) (M := M) (u := u) (v := v) b1 b6.2.2.2.2.2.2.1 b6.2.2.2.2.2.2.2.2
  exact ⟨x, M1, M2, p1, p2, (h.scr3 p3 (fun c a j z => by simp only [ScP]; omega)).up⟩
theorem s141 {X : Cx} {B : Nat} {M : Mem} {q : Int32} (h : Inv B M) : Sm X 141 270 [vI q] B M := by
  obtain ⟨t1, t2, t3, t4, t5, a1, a2, a3, a4, a5, a6, a7⟩ := h.tls
  obtain ⟨x, M1, M2, p1, p2, p3⟩ := op141 (X := X) (d := 38) (M := M) (q := q) a5
  exact ⟨x, M1, M2, p1, p2, (h.scrK p3 (fun c a j z => by simp only [ScP]; omega)).up⟩
theorem s107 {X : Cx} {B : Nat} {M : Mem} {a b c e f : Int32} (h : Inv B M) : Sm X 107 166 [vI a, vI b, vI c, vI e, vI f] B M := by
  obtain ⟨x, M1, M2, p1, p2, p3⟩ := inv107 (X := X) (d := 39) (a := a) (b := b) (c := c) (e := e) (f := f) h
  exact ⟨x, M1, M2, p1, p2, p3.up⟩
theorem s108 {X : Cx} {B : Nat} {M : Mem} {q : Int32} (h : Inv B M) : Sm X 108 167 [vI q] B M := by
  obtain ⟨x, M1, M2, p1, p2, p3⟩ := inv108 (X := X) (d := 39) (q := q) h
  exact ⟨x, M1, M2, p1, p2, p3.up⟩
theorem s109 {X : Cx} {B : Nat} {M : Mem} {q : Int32} (hX : StrOk X) (h : Inv B M) : Sm X 109 200 [vI q] B M := by
  obtain ⟨x, M1, M2, p1, p2, p3⟩ := inv109 (X := X) (d := 0) (q := q) hX h
  exact ⟨x, M1, M2, p1, p2, p3.up⟩
