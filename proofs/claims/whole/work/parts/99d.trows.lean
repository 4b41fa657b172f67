/-! text of rows: what is common -/
theorem trows {X : Cx} {b : Nat → Nat} {n m k : Nat} {IC : Mem → List Nat → Prop} {r : Rr} (hX : StrOk X) (hT : Tok b n m) (hk : k ≤ 3) (u1 : ∀ (d : Nat) (M : Mem), CA M b n m 0 → IC M [] → ∃ M', K3 RdP M M' ∧ rrC (fun P' => CA M' b n m m ∧ IC M' P') (fun e p => DD M' b n m e p) r ∧ ∀ Q : Option Vl → Mem → Prop, Q (some (vI (rrR r))) M' → V X (d + 7) 24 46 [some (vR 3 0), some (vI (iN k)), some (vI (iN 0))] [] M Q) (d : Nat) (M : Mem) (hC : TpC M b n) (hW : WtR M) (hI : ∀ M6, Cleared M6 → K3 PrP M M6 → IC M6 []) : ∃ M', CC X (d + 7) 24 [vR 3 0, vI (iN k)] M (some (vI (rrR r))) M' ∧ K3 TxP M M' ∧ M'.1 3 0 7 = 0 ∧ WtR M' ∧ FtC M' b n (rrF r) ∧ rrC (fun P' => IC M' P') (fun _ _ => True) r := by
  obtain ⟨w, hw, h11⟩ := hW
  obtain ⟨M6, a1, a2, a3, a4, a5⟩ := pre_k (X := X) (d := d) (k := k) hX hT hC hk hw h11
  obtain ⟨M', z1, z2, z3⟩ := u1 d M6 a1 (hI M6 a2 a4)
  refine ⟨M', e24 (a5 _ (z3 _ ⟨rfl, rfl⟩)), k3_trans (k3_sub a4 Pr_x) (k3_sub z1 Rd_x), by rw [z1 3 0 7 (by simp [RdP])]; exact a3, ?_, ?_, ?_⟩
  · match r, z2 with
    | .inl P, z2 => exact z2.1.2.2.2.2.2.2.1
    | .inr (e, p), z2 => exact (show DD M' b n m e p from z2).2.2.2.2.2.2.2
  · match r, z2 with
    | .inl P, z2 => exact ⟨z2.1.2.1, z2.1.2.2.2.2.2.2.2⟩
    | .inr (e, p), z2 => exact ⟨(show DD M' b n m e p from z2).2.2.1, (show DD M' b n m e p from z2).2.2.2.1⟩
  · match r, z2 with
    | .inl P, z2 => exact z2.2
    | .inr (e, p), z2 => trivial
theorem rows200 {X : Cx} {b : Nat → Nat} {n m k : Nat} {IR : Mem → List Nat → Prop} {r : Rr} (hX : StrOk X) (hk1 : 1 ≤ k) (hk : k ≤ 3) (u2 : ∀ (f : Nat) (M : Mem), RS M b n k 0 → M.1 100 0 15 = iN 0 → IR M [] → ∃ M', K3 RyP M M' ∧ rrC (fun P' => RS M' b n k m ∧ M'.1 100 0 15 = iN P'.length ∧ IR M' P') (fun e p => Bad M' b n e p) r ∧ ∀ Q : Option Vl → Mem → Prop, Q (some (vI (rrB r))) M' → V X (f + 40) 196 36 [some (vR 100 0), some (vI 1)] [] M Q) (f : Nat) (M : Mem) (h : TpM M b n)
    (hI : ∀ M8, (k = 3 → ∀ x, x < 64 → M8.1 107 0 x = -1) → K3 TyP M M8 → IR M8 []) : ∃ M9, K3 TyP M M9 ∧ M9.1 100 0 16 = 0 ∧ ((∃ e p, r = .inr (e, p) ∧ FtM M9 b n (some (e, p)) ∧ CC X (f + 41) 200 [vR 100 0, vI (iN k)] M (some (vI (-1))) M9) ∨ (∃ P, r = .inl P ∧ M9.1 100 0 23 = 0 ∧ M9.1 100 0 25 = -1 ∧ M9.1 100 0 15 = iN P.length ∧ (∃ M8, IR M8 P ∧ M9 = st M8 100 0 16 0) ∧ ∀ (x : Int32) (M' : Mem), CC X (f + 40) 199 [vR 100 0, vI (iN k)] M9 (some (vI x)) M' → CC X (f + 41) 200 [vR 100 0, vI (iN k)] M (some (vI x)) M')) := by
  have nk : ¬ iN k = 0 := by rw [show (iN k = 0) = False from neq_ (b := 0) (by omega) (by decide) (by omega)]; exact id
  obtain ⟨M7, a1, a2, a3, a4, a5⟩ := pre200 (X := X) (f := f) (k := k) hX hk h
  have a12 : M7.1 100 0 12 = iN k := a1.2.1
  have k1 : K3 (fun c a j => c = 100 ∧ a = 0 ∧ j = 15) M7 (st M7 100 0 15 0) := k3_st ⟨rfl, rfl, rfl⟩
  -- the row's room
  have room : ∃ M8, (k = 3 → ∀ x, x < 64 → M8.1 107 0 x = -1) ∧ K3 (fun c a j => a = 0 ∧ (c = 107 ∨ (c = 100 ∧ j = 15))) M7 M8 ∧ M8.1 100 0 15 = iN 0 ∧ ∀ Q : Option Vl → Mem → Prop, V X (f + 40) 196 36 [some (vR 100 0), some (vI 1)] [] M8 Q → V X (f + 40) 196 0 [some (vR 100 0), none] [] M7 Q := by
    by_cases h3 : k = 3
    · subst h3
      obtain ⟨M2, ⟨i1, i2⟩, hV⟩ := for_fwd (n := 64) (M := st M7 100 0 15 0)
        (I := fun t Mt => (∀ x, x < t → Mt.1 107 0 x = -1) ∧ K3 (fun c a _ => a = 0 ∧ c = 107) (st M7 100 0 15 0) Mt)
        (St := fun t Mt Q => V X (f + 40) 196 15 [some (vR 100 0), some (vI (iN t))] [] Mt Q)
        (by
          rintro t Mt ht ⟨g1, g2⟩
          refine ⟨st Mt 107 0 t (-1), ⟨fun x hx => ?_, k3_trans g2 (k3_st ⟨rfl, rfl⟩)⟩, fun Q hQ => w196_15 ⟨fun z => absurd z ?_, fun _ => ?_⟩⟩
          · by_cases hxt : x = t
            · rw [hxt, st_at]
            · rw [st_ne3 (by omega)]
              exact g1 x (by omega)
          · rw [show (64 ≤ iN t) = False from nle_ (a := 64) (by decide) (by omega) (by omega)]
            exact id
          · rw [ix_of (by omega)]
            refine ⟨inb_of (by omega) (by decide), fun M1 hM1 => ?_⟩
            subst hM1
            rw [iN_step]
            exact hQ)
        ⟨fun x hx => absurd hx (by omega), k3_refl⟩
      refine ⟨M2, fun _ => i1, k3_trans (k3_sub k1 (fun c a j z => by omega)) (k3_sub i2 (fun c a j z => by omega)), by rw [i2 100 0 15 (by omega), st_at]; rfl, fun Q hQ => w196_0 (fun M1 h1 => ?_)⟩
      subst h1
      refine ⟨fun z => absurd (by rw [st_ne3 (by omega)]; exact a12) z, fun _ => hV Q (w196_15 ⟨fun _ => hQ, fun z => absurd (by decide) z⟩)⟩
    · refine ⟨st M7 100 0 15 0, fun z => absurd z h3, k3_sub k1 (fun c a j z => by omega), by rw [st_at]; rfl, fun Q hQ => w196_0 (fun M1 h1 => ?_)⟩
      subst h1
      refine ⟨fun _ => hQ, fun z => absurd z ?_⟩
      rw [st_ne3 (by omega), a12, show (iN k = 3) = False from neq_ (b := 3) (by omega) (by decide) h3]
      exact id
  obtain ⟨M8, b1, b2, b3, b4⟩ := room
  have kk8 : K3 TyP M M8 := k3_trans (k3_sub a4 P2_t) (k3_sub b2 (fun c a j z => by simp only [TyP]; omega))
  obtain ⟨M', z1, z2, z3⟩ := u2 f M8 (a1.k b2 (fun j hj => by omega) (fun j => by omega)) b3 (hI M8 b1 kk8)
  have run : CC X (f + 40) 196 [vR 100 0] M7 (some (vI (rrB r))) M' := e196 (b4 _ (z3 _ ⟨rfl, rfl⟩))
  have kk : K3 TyP M M' := k3_trans kk8 (k3_sub z1 Ry_t)
  have v23 : M'.1 100 0 23 = 0 := by rw [z1 100 0 23 (by simp [RyP]), b2 100 0 23 (by omega)]; exact a2
  have v25 : M'.1 100 0 25 = -1 := by rw [z1 100 0 25 (by simp [RyP]), b2 100 0 25 (by omega)]; exact a3
  match r, z2, run with
  | .inr (e, p), z2, run =>
    have z2 : Bad M' b n e p := z2
    refine ⟨st (st (st M' 100 0 16 0) 100 0 23 (M'.1 100 0 21)) 100 0 25 (M'.1 100 0 22), k3_trans kk (k3_trans (k3_trans (k3_st (by simp [TyP])) (k3_st (by simp [TyP]))) (k3_st (by simp [TyP]))), by rw [st_ne3 (by omega), st_ne3 (by omega), st_at], Or.inl ⟨e, p, rfl, ⟨by rw [st_ne3 (by omega), st_at]; exact z2.1, by rw [st_at]; exact z2.2⟩, e200 (a5 _ ⟨fun _ => ⟨_, _, run, fun M14 h14 => ⟨fun _ M15 h15 M16 h16 => ⟨rfl, ?_⟩, fun z => absurd rfl z⟩⟩, fun z => absurd z nk⟩)⟩⟩
    subst h14
    rw [st_ne3 (by omega)] at h15
    subst h15
    rw [st_ne3 (by omega), st_ne3 (by omega)] at h16
    exact h16
  | .inl P, z2, run =>
    obtain ⟨y1, y2, y3⟩ := z2
    refine ⟨st M' 100 0 16 0, k3_trans kk (k3_st (by simp [TyP])), st_at, Or.inr ⟨P, rfl, by rw [st_ne3 (by omega)]; exact v23, by rw [st_ne3 (by omega)]; exact v25, by rw [st_ne3 (by omega)]; exact y2, ⟨M', y3, rfl⟩, fun x M2 hx => e200 (a5 _ ⟨fun _ => ⟨_, _, run, fun M9 h9 => ⟨fun z => absurd z n10, fun _ => ⟨_, M2, ?_, rfl, rfl⟩⟩⟩, fun z => absurd z nk⟩)⟩⟩
    subst h9
    exact hx
