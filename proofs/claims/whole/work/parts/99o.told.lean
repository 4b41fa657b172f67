/-! telling keeps the invariant -/
theorem ToldR.kp {M M2 : Mem} {P : Nat → Nat → Prop} {R : Nat → Prop} {b ci off str cap n : Nat} {G : Int32 → Int32 → Bool} (h : ToldR M b 0 (M.1 101 0) ci off str cap G n) (k : Keep P R M M2) (hb : b + 2 < 101) (h0 : ¬ P b 0) (h1 : ¬ P (b + 1) 0) (h2 : ¬ P (b + 2) 0) (hc : ¬ R ci) (hw : ∀ j, off ≤ j → j < off + str * cap → ¬ R j) (hs : str = 1 ∨ str = 2) : ToldR M2 b 0 (M2.1 101 0) ci off str cap G n := by
  refine h.cp ?_ (fun j _ => ⟨?_, ?_⟩) (k.2 _ hc) (fun j x y => k.2 _ (hw j x y)) hs
  · rw [k.1 b 0 h0 (by omega)]
  · rw [k.1 (b + 1) 0 h1 (by omega)]
  · rw [k.1 (b + 2) 0 h2 (by omega)]
theorem SumR.kp {M M2 : Mem} {P : Nat → Nat → Prop} {R : Nat → Prop} (h : SumR M 0 (M.1 101 0)) (k : Keep P R M M2) (h0 : ¬ P 71 0) (h1 : ∀ j, 543 ≤ j → j < 549 → ¬ R j) : SumR M2 0 (M2.1 101 0) := fun j hj => by
  obtain ⟨n, a1, a2, a3⟩ := h j hj
  exact ⟨n, a1, by rw [k.1 71 0 h0 (by decide)]; exact a2, by rw [k.2 _ (h1 _ (by omega) (by omega))]; exact a3⟩
theorem GarR.kp {M M2 : Mem} {P : Nat → Nat → Prop} {R : Nat → Prop} (h : GarR M 0 (M.1 101 0)) (k : Keep P R M M2) (h0 : ¬ P 72 0) (h1 : ∀ j, 549 ≤ j → j < 557 → ¬ R j) : GarR M2 0 (M2.1 101 0) := fun j hj => by
  obtain ⟨n, a1, a2, a3⟩ := h j hj
  exact ⟨n, a1, by rw [k.1 72 0 h0 (by decide)]; exact a2, by rw [k.2 _ (h1 _ (by omega) (by omega))]; exact a3⟩
theorem s124 {X : Cx} {B : Nat} {M : Mem} {u v : Int32} (h : Inv B M) : Sm X 124 244 [vI u, vI v] B M := by
  obtain ⟨t1, t2, t3, t4, t5, a1, a2, a3, a4, a5, a6, a7⟩ := h.tls
  obtain ⟨x, M1, M2, p1, p2, p3, p4⟩ := op124 (X := X) (d := 39) (M := M) (x := u) (y := v) a6
  exact ⟨x, M1, M2, p1, p2, (h.told p4 (fun c a z => by omega) (fun j z => by omega) (fun _ _ _ _ _ _ => ⟨t1, t2, t3, t4, t5, a1.kp p4 (by decide) (by omega) (by omega) (by omega) (by omega) (fun j _ _ => by omega) (by decide), a2.kp p4 (by decide) (by omega) (by omega) (by omega) (by omega) (fun j _ _ => by omega) (by decide), a3.kp p4 (by decide) (by omega) (by omega) (by omega) (by omega) (fun j _ _ => by omega) (by decide), a4.kp p4 (by decide) (by omega) (by omega) (by omega) (by omega) (fun j _ _ => by omega) (by decide), a5.kp p4 (by decide) (by omega) (by omega) (by omega) (by omega) (fun j _ _ => by omega) (by decide), p3, a7.kp p4 (by omega) (fun j _ _ => by omega)⟩)).up⟩
theorem s126 {X : Cx} {B : Nat} {M : Mem} {u v : Int32} (h : Inv B M) : Sm X 126 247 [vI u, vI v] B M := by
  obtain ⟨t1, t2, t3, t4, t5, a1, a2, a3, a4, a5, a6, a7⟩ := h.tls
  obtain ⟨x, M1, M2, p1, p2, p3, p4⟩ := op126 (X := X) (d := 39) (M := M) (x := u) (y := v) a7
  exact ⟨x, M1, M2, p1, p2, (h.told p4 (fun c a z => by omega) (fun j z => by omega) (fun _ _ _ _ _ _ => ⟨t1, t2, t3, t4, t5, a1.kp p4 (by decide) (by omega) (by omega) (by omega) (by omega) (fun j _ _ => by omega) (by decide), a2.kp p4 (by decide) (by omega) (by omega) (by omega) (by omega) (fun j _ _ => by omega) (by decide), a3.kp p4 (by decide) (by omega) (by omega) (by omega) (by omega) (fun j _ _ => by omega) (by decide), a4.kp p4 (by decide) (by omega) (by omega) (by omega) (by omega) (fun j _ _ => by omega) (by decide), a5.kp p4 (by decide) (by omega) (by omega) (by omega) (by omega) (fun j _ _ => by omega) (by decide), a6.kp p4 (by omega) (fun j _ _ => by omega), p3⟩)).up⟩
theorem s128 {X : Cx} {B : Nat} {M : Mem} {u v : Int32} (h : Inv B M) : Sm X 128 249 [vI u, vI v] B M := by
  obtain ⟨t1, t2, t3, t4, t5, a1, a2, a3, a4, a5, a6, a7⟩ := h.tls
  obtain ⟨x, M1, M2, p1, p2, p3, p4⟩ := op128 (X := X) (d := 39) (M := M) (x := u) (y := v) a1
  obtain ⟨n2, p3⟩ := p3
  exact ⟨x, M1, M2, p1, p2, (h.told p4 (fun c a z => by omega) (fun j z => by omega) (fun _ _ _ _ _ _ => ⟨n2, t2, t3, t4, t5, p3, a2.kp p4 (by decide) (by omega) (by omega) (by omega) (by omega) (fun j _ _ => by omega) (by decide), a3.kp p4 (by decide) (by omega) (by omega) (by omega) (by omega) (fun j _ _ => by omega) (by decide), a4.kp p4 (by decide) (by omega) (by omega) (by omega) (by omega) (fun j _ _ => by omega) (by decide), a5.kp p4 (by decide) (by omega) (by omega) (by omega) (by omega) (fun j _ _ => by omega) (by decide), a6.kp p4 (by omega) (fun j _ _ => by omega), a7.kp p4 (by omega) (fun j _ _ => by omega)⟩)).up⟩
theorem s131 {X : Cx} {B : Nat} {M : Mem} {u v : Int32} (h : Inv B M) : Sm X 131 253 [vI u, vI v] B M := by
  obtain ⟨t1, t2, t3, t4, t5, a1, a2, a3, a4, a5, a6, a7⟩ := h.tls
  obtain ⟨x, M1, M2, p1, p2, p3, p4⟩ := op131 (X := X) (d := 39) (M := M) (x := u) (y := v) a2
  obtain ⟨n2, p3⟩ := p3
  exact ⟨x, M1, M2, p1, p2, (h.told p4 (fun c a z => by omega) (fun j z => by omega) (fun _ _ _ _ _ _ => ⟨t1, n2, t3, t4, t5, a1.kp p4 (by decide) (by omega) (by omega) (by omega) (by omega) (fun j _ _ => by omega) (by decide), p3, a3.kp p4 (by decide) (by omega) (by omega) (by omega) (by omega) (fun j _ _ => by omega) (by decide), a4.kp p4 (by decide) (by omega) (by omega) (by omega) (by omega) (fun j _ _ => by omega) (by decide), a5.kp p4 (by decide) (by omega) (by omega) (by omega) (by omega) (fun j _ _ => by omega) (by decide), a6.kp p4 (by omega) (fun j _ _ => by omega), a7.kp p4 (by omega) (fun j _ _ => by omega)⟩)).up⟩
theorem s133 {X : Cx} {B : Nat} {M : Mem} {u : Int32} (h : Inv B M) : Sm X 133 256 [vI u] B M := by
  obtain ⟨t1, t2, t3, t4, t5, a1, a2, a3, a4, a5, a6, a7⟩ := h.tls
  obtain ⟨x, M1, M2, p1, p2, p3, p4⟩ := op133 (X := X) (d := 39) (M := M) (x := u) a3
  obtain ⟨n2, p3⟩ := p3
  exact ⟨x, M1, M2, p1, p2, (h.told p4 (fun c a z => by omega) (fun j z => by omega) (fun _ _ _ _ _ _ => ⟨t1, t2, n2, t4, t5, a1.kp p4 (by decide) (by omega) (by omega) (by omega) (by omega) (fun j _ _ => by omega) (by decide), a2.kp p4 (by decide) (by omega) (by omega) (by omega) (by omega) (fun j _ _ => by omega) (by decide), p3, a4.kp p4 (by decide) (by omega) (by omega) (by omega) (by omega) (fun j _ _ => by omega) (by decide), a5.kp p4 (by decide) (by omega) (by omega) (by omega) (by omega) (fun j _ _ => by omega) (by decide), a6.kp p4 (by omega) (fun j _ _ => by omega), a7.kp p4 (by omega) (fun j _ _ => by omega)⟩)).up⟩
theorem s135 {X : Cx} {B : Nat} {M : Mem} {u v : Int32} (h : Inv B M) : Sm X 135 259 [vI u, vI v] B M := by
  obtain ⟨t1, t2, t3, t4, t5, a1, a2, a3, a4, a5, a6, a7⟩ := h.tls
  obtain ⟨x, M1, M2, p1, p2, p3, p4⟩ := op135 (X := X) (d := 39) (M := M) (x := u) (y := v) a4
  obtain ⟨n2, p3⟩ := p3
  exact ⟨x, M1, M2, p1, p2, (h.told p4 (fun c a z => by omega) (fun j z => by omega) (fun _ _ _ _ _ _ => ⟨t1, t2, t3, n2, t5, a1.kp p4 (by decide) (by omega) (by omega) (by omega) (by omega) (fun j _ _ => by omega) (by decide), a2.kp p4 (by decide) (by omega) (by omega) (by omega) (by omega) (fun j _ _ => by omega) (by decide), a3.kp p4 (by decide) (by omega) (by omega) (by omega) (by omega) (fun j _ _ => by omega) (by decide), p3, a5.kp p4 (by decide) (by omega) (by omega) (by omega) (by omega) (fun j _ _ => by omega) (by decide), a6.kp p4 (by omega) (fun j _ _ => by omega), a7.kp p4 (by omega) (fun j _ _ => by omega)⟩)).up⟩
theorem s140 {X : Cx} {B : Nat} {M : Mem} {u : Int32} (h : Inv B M) : Sm X 140 268 [vI u] B M := by
  obtain ⟨t1, t2, t3, t4, t5, a1, a2, a3, a4, a5, a6, a7⟩ := h.tls
  obtain ⟨x, M1, M2, p1, p2, p3, p4⟩ := op140 (X := X) (d := 39) (M := M) (x := u) a5
  obtain ⟨n2, p3⟩ := p3
  exact ⟨x, M1, M2, p1, p2, (h.told p4 (fun c a z => by omega) (fun j z => by omega) (fun _ _ _ _ _ _ => ⟨t1, t2, t3, t4, n2, a1.kp p4 (by decide) (by omega) (by omega) (by omega) (by omega) (fun j _ _ => by omega) (by decide), a2.kp p4 (by decide) (by omega) (by omega) (by omega) (by omega) (fun j _ _ => by omega) (by decide), a3.kp p4 (by decide) (by omega) (by omega) (by omega) (by omega) (fun j _ _ => by omega) (by decide), a4.kp p4 (by decide) (by omega) (by omega) (by omega) (by omega) (fun j _ _ => by omega) (by decide), p3, a6.kp p4 (by omega) (fun j _ _ => by omega), a7.kp p4 (by omega) (fun j _ _ => by omega)⟩)).up⟩
