/-! a line of law, read by both -/
abbrev Rl : Type := (Nat × Cds × Cds) ⊕ (Nat × Nat)
def rlC (post : Nat → Cds → Cds → Prop) (bad : Nat → Nat → Prop) : Rl → Prop
  | .inl (j, cv, cc) => post j cv cc
  | .inr (e, p) => bad e p
def rlB : Rl → Int32
  | .inl _ => 1
  | .inr _ => 0
abbrev LnP (q : Nat) : Nat → Nat → Nat → Prop := fun c a j => (c = 3 ∧ a = 0 ∧ (j = 9 ∨ j = 10 ∨ j = 11 ∨ j = 12 ∨ j = 13 ∨ j = 14)) ∨ (c = 7 ∧ a = 0) ∨ (a = 1 ∧ ((c = 40 ∧ (j = 0 ∨ j = 1)) ∨ c = 46 ∨ (42 ≤ c ∧ c < 46 ∧ j = q)))
theorem Cd_l {q : Nat} : ∀ c a j, CdP c a j → LnP q c a j := fun c a j h => by simp only [CdP] at h; simp only [LnP]; omega
theorem Sm_l {q : Nat} : ∀ c a j, SmP c a j → LnP q c a j := fun c a j h => Cd_l c a j (Sm_c c a j h)
theorem Sp_l {q : Nat} : ∀ c a j, SpP c a j → LnP q c a j := fun c a j h => Cd_l c a j (Sp_c c a j h)
theorem Bl_l {q : Nat} : ∀ c a j, BlP c a j → LnP q c a j := fun c a j h => Cd_l c a j (Bl_c c a j h)
def LnE (X : Cx) (d : Nat) (p0 : Int32) (Q : Option Vl → Mem → Prop) (M6 : Mem) : Prop := inb p0 16 ∧ ∀ M7, M7 = st M6 45 1 (ix p0) (M6.1 40 1 1) → ∃ (M8 : Mem), CC X d 38 [vR 3 0, vI 20059] M7 none M8 ∧ ∀ M9, M9 = st M8 40 1 0 (p0 + 1) → Q none M9
def LnG (X : Cx) (d : Nat) (M1 : Mem) (p0 x : Int32) (Q : Option Vl → Mem → Prop) : Prop := (p0 < 0 → Q none M1) ∧ (¬ p0 < 0 → (p0 < 16 → inb p0 16 ∧ ∀ M2, M2 = st M1 42 1 (ix p0) x → inb p0 16 ∧ ∀ M3, M3 = st M2 43 1 (ix p0) (M2.1 40 1 1) → ∃ (M4 : Mem), CC X d 42 [vR 3 0] M3 none M4 ∧ inb p0 16 ∧ ∀ M5, M5 = st M4 44 1 (ix p0) (M4.1 40 1 1) → ∃ (r1 : Int32) (M6 : Mem), CC X d 34 [vR 3 0, vI 10013] M5 (some (vI r1)) M6 ∧ (r1 = 0 → LnE X d p0 Q M6) ∧ (¬ r1 = 0 → ∃ (M10 : Mem), CC X d 36 [vR 3 0] M6 none M10 ∧ ∃ (M11 : Mem), CC X d 45 [vR 3 0] M10 none M11 ∧ LnE X d p0 Q M11)) ∧ (¬ p0 < 16 → Q none M1))
theorem w41_k {X : Cx} {d : Nat} {M : Mem} {Q : Option Vl → Mem → Prop} {p0 : Int32} (hk : M.1 3 0 10 = 10010 ∨ M.1 3 0 10 = 10011 ∨ M.1 3 0 10 = 10012) (h : ∃ (M1 : Mem), CC X d 40 [vR 3 0, vI 1, vI p0] M none M1 ∧ LnG X d M1 p0 (M.1 3 0 10) Q) : V X (d + 1) 41 0 [some (vR 3 0), some (vI p0), none] [] M Q := by
  refine w41_0 ⟨fun _ => h, fun z1 => ⟨fun _ => h, fun z2 => ⟨fun z3 => ?_, fun _ => h⟩⟩⟩
  rcases hk with hk | hk | hk
  · exact absurd hk z1
  · exact absurd hk z2
  · exact absurd hk z3
theorem w41_n {X : Cx} {d : Nat} {M : Mem} {Q : Option Vl → Mem → Prop} {p0 : Int32} (n1 : ¬ M.1 3 0 10 = 10010) (n2 : ¬ M.1 3 0 10 = 10011) (n3 : ¬ M.1 3 0 10 = 10012) (h : ∃ (M1 : Mem), CC X d 40 [vR 3 0, vI 0, vI p0] M none M1 ∧ LnG X d M1 p0 (M.1 3 0 10) Q) : V X (d + 1) 41 0 [some (vR 3 0), some (vI p0), none] [] M Q := w41_0 ⟨fun z => absurd z n1, fun _ => ⟨fun z => absurd z n2, fun _ => ⟨fun _ => h, fun z => absurd z n3⟩⟩⟩
theorem q_n {q : Nat} (hq : q ≤ 16) : ¬ iN q < 0 := by rw [show (iN q < 0) = False from nlt_ (b := 0) (by omega) (by decide) (by omega)]; exact id
theorem LnE_d {X : Cx} {d q : Nat} {M : Mem} {b : Nat → Nat} {n m e p : Nat} (hq : q < 16) (h : DD M b n m e p) : ∃ M', DD M' b n m e p ∧ K3 (LnP q) M M' ∧ ∀ Q : Option Vl → Mem → Prop, Q none M' → LnE X (d + 5) (iN q) Q M := by
  obtain ⟨w, hw, h11⟩ := h.2.2.2.2.2.2.2
  have k1 : K3 (fun c a j => a = 1 ∧ ((c = 45 ∧ j = q) ∨ (c = 40 ∧ j = 0))) M (st (st M 45 1 q (M.1 40 1 1)) 40 1 0 (iN (q + 1))) := k3_trans (k3_st (by omega)) (k3_st (by omega))
  have h2 : DD (st M 45 1 q (M.1 40 1 1)) b n m e p := h.k (P := fun c a j => c = 45) (k3_st rfl) (by decide) (by decide) (by decide) (by decide) (fun _ => by decide) (fun _ => by decide) (by decide) hw (by rw [st_ne3 (fun z => absurd z.1 (by decide))]; exact h11)
  refine ⟨_, h.k k1 (by omega) (by omega) (by omega) (by omega) (fun _ => by omega) (fun _ => by omega) (by omega) hw (by rw [st_ne3 (fun z => absurd z.1 (by decide)), st_ne3 (fun z => absurd z.1 (by decide))]; exact h11), k3_sub k1 (fun c a j z => by simp only [LnP]; omega), fun Q hQ => ⟨inb_of hq (by decide), fun M7 hM7 => ?_⟩⟩
  rw [ix_of (by omega)] at hM7
  subst hM7
  refine ⟨_, c38_d h2, fun M9 hM9 => ?_⟩
  rw [iN_step] at hM9
  subst hM9
  exact hQ
theorem LnG_d {X : Cx} {d q : Nat} {M : Mem} {b : Nat → Nat} {n m e p : Nat} {x : Int32} (hq : q ≤ 16) (h : DD M b n m e p) : ∃ M', DD M' b n m e p ∧ K3 (LnP q) M M' ∧ ∀ Q : Option Vl → Mem → Prop, Q none M' → LnG X (d + 5) M (iN q) x Q := by
  by_cases h16 : q = 16
  · subst h16
    exact ⟨M, h, k3_refl, fun Q hQ => ⟨fun _ => hQ, fun _ => ⟨fun z => absurd z (by decide), fun _ => hQ⟩⟩⟩
  · have hq2 : q < 16 := by omega
    obtain ⟨w, hw, h11⟩ := h.2.2.2.2.2.2.2
    have k1 : K3 (fun c a j => a = 1 ∧ (42 ≤ c ∧ c < 44 ∧ j = q)) M (st (st M 42 1 q x) 43 1 q (M.1 40 1 1)) := k3_trans (k3_st (by omega)) (k3_st (by omega))
    have h1 := h.k k1 (by omega) (by omega) (by omega) (by omega) (fun _ => by omega) (fun _ => by omega) (by omega) hw (by rw [st_ne3 (fun z => absurd z.1 (by decide)), st_ne3 (fun z => absurd z.1 (by decide))]; exact h11)
    have k2 : K3 (fun c a j => a = 1 ∧ (42 ≤ c ∧ c < 45 ∧ j = q)) M (st (st (st M 42 1 q x) 43 1 q (M.1 40 1 1)) 44 1 q (M.1 40 1 1)) := k3_trans (k3_sub k1 (fun c a j z => by omega)) (k3_st (by omega))
    have h2 := h.k k2 (by omega) (by omega) (by omega) (by omega) (fun _ => by omega) (fun _ => by omega) (by omega) hw (by rw [st_ne3 (fun z => absurd z.1 (by decide)), st_ne3 (fun z => absurd z.1 (by decide)), st_ne3 (fun z => absurd z.1 (by decide))]; exact h11)
    obtain ⟨M', f1, f2, f3⟩ := LnE_d (X := X) (d := d) hq2 h2
    refine ⟨M', f1, k3_trans (k3_sub k2 (fun c a j z => by simp only [LnP]; omega)) f2, fun Q hQ => ⟨fun z => absurd z (q_n hq), fun _ => ⟨fun _ => ⟨inb_of hq2 (by decide), fun M2 hM2 => ⟨inb_of hq2 (by decide), fun M3 hM3 => ?_⟩⟩, fun z => absurd ((iN_lt (b := 16) (by omega) (by decide)).mpr hq2) z⟩⟩⟩
    rw [ix_of (by omega)] at hM2
    subst hM2
    rw [ix_of (by omega), st_ne3 (fun z => absurd z.1 (by decide))] at hM3
    subst hM3
    refine ⟨_, c42_d h1, inb_of hq2 (by decide), fun M5 hM5 => ?_⟩
    rw [ix_of (by omega), st_ne3 (fun z => absurd z.1 (by decide)), st_ne3 (fun z => absurd z.1 (by decide))] at hM5
    subst hM5
    exact ⟨_, _, c34_d h2, fun _ => f3 Q hQ, fun z => absurd rfl z⟩
/-- the line's end -/
theorem LnE_ok {X : Cx} {d q j : Nat} {M : Mem} {b : Nat → Nat} {n m : Nat} {cs : Cds} (hT : Tok b n m) (hq : q < 16) (h : CL M b n m j cs) (hj : tk b n j = 20059) : ∃ M', CL M' b n m (j + 1) cs ∧ M'.1 45 1 q = iN (tr cs).length ∧ M'.1 40 1 0 = iN (q + 1) ∧ K3 (fun c a j => (c = 3 ∧ a = 0 ∧ (j = 9 ∨ j = 10)) ∨ (a = 1 ∧ ((c = 40 ∧ j = 0) ∨ (c = 45 ∧ j = q)))) M M' ∧ ∀ Q : Option Vl → Mem → Prop, Q none M' → LnE X (d + 5) (iN q) Q M := by
  obtain ⟨w, hw, h11⟩ := h.1.2.2.2.2.2.2.1
  have h1 : CL (st M 45 1 q (iN (tr cs).length)) b n m j cs := h.k (P := fun c a j => c = 45) (k3_st rfl) (by decide) (by decide) (by decide) (by decide) (fun _ => by decide) (fun _ => by decide) (by decide) (fun _ => by decide) hw (by rw [st_ne3 (fun z => absurd z.1 (by decide))]; exact h11)
  obtain ⟨M1, p1, p2, p3⟩ := c38 (X := X) (d := d + 3) hT h1.1 (t := 20059) (by decide) hj
  have h2 := (h1.w.k p2 p3).l (by have := h.2.2.2; omega)
  obtain ⟨w2, hw2, h112⟩ := h2.1.2.2.2.2.2.2.1
  refine ⟨st M1 40 1 0 (iN (q + 1)), h2.k (P := fun c a j => c = 40 ∧ j = 0) (k3_st ⟨rfl, rfl⟩) (by decide) (by decide) (by decide) (by decide) (fun _ => by omega) (fun _ => by omega) (by decide) (fun _ => by omega) hw2 (by rw [st_ne3 (fun z => absurd z.1 (by decide))]; exact h112), by rw [st_ne3 (fun z => absurd z.1 (by decide)), p3 45 1 q (by simp [SpP]), st_at], st_at, k3_trans (k3_st (by omega)) (k3_trans (k3_sub p3 (fun c a j z => by simp only [SpP] at z; omega)) (k3_st (by omega))), fun Q hQ => ⟨inb_of hq (by decide), fun M7 hM7 => ?_⟩⟩
  rw [ix_of (by omega), h.2.1] at hM7
  subst hM7
  refine ⟨_, p1, fun M9 hM9 => ?_⟩
  rw [iN_step] at hM9
  subst hM9
  exact hQ
theorem LnE_f {X : Cx} {d q j : Nat} {M : Mem} {b : Nat → Nat} {n m : Nat} {cs : Cds} (hT : Tok b n m) (hq : q < 16) (h : CL M b n m j cs) (hj : ¬ tk b n j = 20059) : ∃ M', DD M' b n m 1 j ∧ K3 (LnP q) M M' ∧ ∀ Q : Option Vl → Mem → Prop, Q none M' → LnE X (d + 5) (iN q) Q M := by
  obtain ⟨w, hw, h11⟩ := h.1.2.2.2.2.2.2.1
  have h1 : CL (st M 45 1 q (iN (tr cs).length)) b n m j cs := h.k (P := fun c a j => c = 45) (k3_st rfl) (by decide) (by decide) (by decide) (by decide) (fun _ => by decide) (fun _ => by decide) (by decide) (fun _ => by decide) hw (by rw [st_ne3 (fun z => absurd z.1 (by decide))]; exact h11)
  obtain ⟨M1, p1, p2, p3⟩ := c38_f (X := X) (d := d + 3) hT h1.1 (t := 20059) (by decide) hj
  obtain ⟨w2, hw2, h112⟩ := p2.2.2.2.2.2.2.2
  refine ⟨st M1 40 1 0 (iN (q + 1)), p2.k (P := fun c a j => c = 40 ∧ j = 0) (k3_st ⟨rfl, rfl⟩) (by decide) (by decide) (by decide) (by decide) (fun _ => by omega) (fun _ => by omega) (by decide) hw2 (by rw [st_ne3 (fun z => absurd z.1 (by decide))]; exact h112), k3_trans (k3_st (by simp [LnP])) (k3_trans (k3_sub p3 Bl_l) (k3_st (by simp [LnP]))), fun Q hQ => ⟨inb_of hq (by decide), fun M7 hM7 => ?_⟩⟩
  rw [ix_of (by omega), h.2.1] at hM7
  subst hM7
  refine ⟨_, p1, fun M9 hM9 => ?_⟩
  rw [iN_step] at hM9
  subst hM9
  exact hQ
/-- a line, its word read -/
def LnCl (X : Cx) (b : Nat → Nat) (n m i : Nat) (r : Rl) : Prop := ∀ (d q : Nat) (x : Int32) (M : Mem) (cs : Cds), q < 16 → CL M b n m i cs → ∃ M', K3 (LnP q) M M' ∧ rlC (fun j cv cc => CL M' b n m j (cs ++ cv ++ cc) ∧ M'.1 42 1 q = x ∧ M'.1 43 1 q = iN (tr cs).length ∧ M'.1 44 1 q = iN (tr (cs ++ cv)).length ∧ M'.1 45 1 q = iN (tr (cs ++ cv ++ cc)).length ∧ M'.1 40 1 0 = iN (q + 1)) (fun e p => DD M' b n m e p) r ∧ ∀ Q : Option Vl → Mem → Prop, Q none M' → LnG X (d + 5) M (iN q) x Q
theorem LnCl_go {X : Cx} {b : Nat → Nat} {n m i : Nat} {d q : Nat} {x : Int32} {M : Mem} {cs : Cds} (hq : q < 16) (h : CL M b n m i cs) : ∃ M3, CL M3 b n m i cs ∧ M3.1 42 1 q = x ∧ M3.1 43 1 q = iN (tr cs).length ∧ K3 (fun c a j => a = 1 ∧ (42 ≤ c ∧ c < 44 ∧ j = q)) M M3 ∧ ∀ (M4 : Mem) (Q : Option Vl → Mem → Prop), CC X (d + 5) 42 [vR 3 0] M3 none M4 → (∃ (r1 : Int32) (M6 : Mem), CC X (d + 5) 34 [vR 3 0, vI 10013] (st M4 44 1 q (M4.1 40 1 1)) (some (vI r1)) M6 ∧ (r1 = 0 → LnE X (d + 5) (iN q) Q M6) ∧ (¬ r1 = 0 → ∃ (M10 : Mem), CC X (d + 5) 36 [vR 3 0] M6 none M10 ∧ ∃ (M11 : Mem), CC X (d + 5) 45 [vR 3 0] M10 none M11 ∧ LnE X (d + 5) (iN q) Q M11)) → LnG X (d + 5) M (iN q) x Q := by
  obtain ⟨w, hw, h11⟩ := h.1.2.2.2.2.2.2.1
  have k1 : K3 (fun c a j => a = 1 ∧ (42 ≤ c ∧ c < 44 ∧ j = q)) M (st (st M 42 1 q x) 43 1 q (iN (tr cs).length)) := k3_trans (k3_st (by omega)) (k3_st (by omega))
  refine ⟨_, h.k k1 (by omega) (by omega) (by omega) (by omega) (fun _ => by omega) (fun _ => by omega) (by omega) (fun _ => by omega) hw (by rw [st_ne3 (fun z => absurd z.1 (by decide)), st_ne3 (fun z => absurd z.1 (by decide))]; exact h11), by rw [st_ne3 (fun z => absurd z.1 (by decide)), st_at], st_at, k1, fun M4 Q h1 h2 => ⟨fun z => absurd z (q_n (by omega)), fun _ => ⟨fun _ => ⟨inb_of hq (by decide), fun M2 hM2 => ⟨inb_of hq (by decide), fun M3 hM3 => ?_⟩⟩, fun z => absurd ((iN_lt (b := 16) (by omega) (by decide)).mpr hq) z⟩⟩⟩
  rw [ix_of (by omega)] at hM2
  subst hM2
  rw [ix_of (by omega), st_ne3 (fun z => absurd z.1 (by decide)), h.2.1] at hM3
  subst hM3
  refine ⟨_, h1, inb_of hq (by decide), fun M5 hM5 => ?_⟩
  rw [ix_of (by omega)] at hM5
  subst hM5
  exact h2
