/-! text: what both do before the first line -/
abbrev PrP : Nat → Nat → Nat → Prop := fun c a j => (a = 0 ∧ ((c = 3 ∧ (j = 7 ∨ j = 8 ∨ j = 9 ∨ j = 10 ∨ j = 13 ∨ j = 14)) ∨ c = 5 ∨ c = 6)) ∨ (a = 1 ∧ ((c = 40 ∧ j < 2) ∨ (c = 50 ∧ j < 3) ∨ c = 59))
theorem c15 {X : Cx} {d : Nat} {M : Mem} : ∃ M', CC X (d + 1) 15 [vR 50 1] M none M' ∧ M'.1 50 1 0 = 0 ∧ M'.1 50 1 1 = 0 ∧ M'.1 50 1 2 = 0 ∧ (∀ x, x < 64 → M'.1 59 1 x = 0) ∧ K3 (fun c a j => a = 1 ∧ ((c = 50 ∧ j < 3) ∨ c = 59)) M M' := by
  obtain ⟨M2, ⟨i1, i2⟩, hV⟩ := for_fwd (n := 64) (M := st (st (st M 50 1 0 0) 50 1 1 0) 50 1 2 0)
    (I := fun t Mt => (∀ x, x < t → Mt.1 59 1 x = 0) ∧ K3 (fun c a _ => a = 1 ∧ c = 59) (st (st (st M 50 1 0 0) 50 1 1 0) 50 1 2 0) Mt)
    (St := fun t Mt Q => V X (d + 1) 15 17 [some (vR 50 1), some (vI (iN t))] [] Mt Q)
    (by
      rintro t Mt ht ⟨g1, g2⟩
      refine ⟨st Mt 59 1 t 0, ⟨fun x hx => ?_, k3_trans g2 (k3_st ⟨rfl, rfl⟩)⟩, fun Q hQ => w15_17 ⟨fun z => absurd z ?_, fun _ => ?_⟩⟩
      · by_cases hxt : x = t
        · rw [hxt, st_at]
        · rw [st_ne3 (by omega)]
          exact g1 x (by omega)
      · rw [show (64 ≤ iN t) = False from nle_ (a := 64) (by decide) (by omega) (by omega)]
        exact id
      · rw [ix_of (by omega)]
        refine ⟨inb_of ht (by decide), fun M1 hM1 => ?_⟩
        subst hM1
        rw [iN_step]
        exact hQ)
    ⟨fun x hx => absurd hx (by omega), k3_refl⟩
  refine ⟨M2, e15 (w15_0 (fun M1 h1 M2' h2 M3 h3 => ?_)), ?_, ?_, ?_, i1, k3_trans (k3_trans (k3_trans (k3_st (by omega)) (k3_st (by omega))) (k3_st (by omega))) (k3_sub i2 (fun c a j z => by omega))⟩
  · subst h1
    subst h2
    subst h3
    exact hV _ (w15_17 ⟨fun _ => ⟨rfl, rfl⟩, fun z => absurd (by decide) z⟩)
  · rw [i2 50 1 0 (by omega), st_ne3 (by omega), st_ne3 (by omega), st_at]
  · rw [i2 50 1 1 (by omega), st_ne3 (by omega), st_at]
  · rw [i2 50 1 2 (by omega), st_at]
/-- the tape, as bytes -/
theorem tape_b {M : Mem} (h : TapeR M) : ∃ (b : Nat → Nat) (n m : Nat), Tok b n m ∧ TpC M b n ∧ TpM M b n := by
  obtain ⟨n, h1, h2, h3, h4⟩ := h
  obtain ⟨m, m1, m2, m3⟩ := ps_end (fun j => ix (M.1 4 0 j)) n
  have hb : ∀ j, j < n → M.1 4 0 j = iN (ix (M.1 4 0 j)) ∧ M.1 108 0 j = iN (ix (M.1 4 0 j)) ∧ ix (M.1 4 0 j) < 256 := by
    intro j hj
    obtain ⟨v, v1, v2, v3⟩ := h4 j hj
    rw [v2, v3, ix_of (by omega)]
    exact ⟨rfl, rfl, v1⟩
  exact ⟨fun j => ix (M.1 4 0 j), n, m, ⟨m1, h1, m2, m3, fun j hj => (hb j hj).2.2⟩, ⟨h1, h2, fun j hj => ⟨(hb j hj).1, (hb j hj).2.2⟩⟩, ⟨h1, h3, fun j hj => ⟨(hb j hj).2.1, (hb j hj).2.2⟩⟩⟩
theorem pre_all {X : Cx} {d : Nat} {M : Mem} {b : Nat → Nat} {n m : Nat} {p0 : Int32} (hX : StrOk X) (hT : Tok b n m) (hC : TpC M b n) : ∃ M4, M4.1 3 0 13 = 0 ∧ M4.1 3 0 14 = -1 ∧ M4.1 3 0 7 = 0 ∧ TkC M4 b n (m + 1) ∧ M4.1 3 0 9 = 0 ∧ M4.1 3 0 10 = iN (tk b n 0) ∧ K3 PrP M M4 ∧ ∀ Q : Option Vl → Mem → Prop, ((p0 < 0 → Q (some (vI (-1))) M4) ∧ (¬ p0 < 0 → (p0 ≤ 3 → ∃ (M5 : Mem), CC X (d + 6) 3 [vR 40 1] M4 none M5 ∧ ∃ (M6 : Mem), CC X (d + 6) 15 [vR 50 1] M5 none M6 ∧ V X (d + 7) 24 46 [some (vR 3 0), some (vI p0), some (vI 0)] [] M6 Q) ∧ (¬ p0 ≤ 3 → Q (some (vI (-1))) M4))) → V X (d + 7) 24 0 [some (vR 3 0), some (vI p0), none] [] M Q := by
  have k2 : K3 (fun c a j => c = 3 ∧ a = 0 ∧ (j = 13 ∨ j = 14)) M (st (st M 3 0 13 0) 3 0 14 (-1)) := k3_trans (k3_st (by omega)) (k3_st (by omega))
  have hC2 : TpC (st (st M 3 0 13 0) 3 0 14 (-1)) b n := hC.k k2 (by omega) (fun _ => by omega)
  obtain ⟨M3, p1, p2, p3, p4, p5, p6⟩ := c25 (X := X) (d := d) hX hC2 hT.2.2.1 hT.2.2.2.1 hT.1
  have k7 : K3 (fun c a j => c = 3 ∧ a = 0 ∧ j = 7) M3 (st M3 3 0 7 0) := k3_st ⟨rfl, rfl, rfl⟩
  refine ⟨st M3 3 0 7 0, ?_, ?_, st_at, p3.k k7 (by omega) (fun _ => by omega) (fun _ => by omega), by rw [st_ne3 (by omega)]; exact p4, by rw [st_ne3 (by omega)]; exact p5, k3_trans (k3_sub k2 (fun c a j z => by simp only [PrP]; omega)) (k3_trans (k3_sub p6 (fun c a j z => by simp only [FtP] at z; simp only [PrP]; omega)) (k3_sub k7 (fun c a j z => by simp only [PrP]; omega))), fun Q hQ => w24_0 (fun M1 h1 M2 h2 => ?_)⟩
  · rw [st_ne3 (by omega), p6 3 0 13 (by simp [FtP]), st_ne3 (by omega), st_at]
  · rw [st_ne3 (by omega), p6 3 0 14 (by simp [FtP]), st_at]
  · subst h1
    subst h2
    refine ⟨_, p1, fun M4 h4 => ?_⟩
    subst h4
    exact hQ
def Cleared (M : Mem) : Prop := M.1 40 1 0 = 0 ∧ M.1 40 1 1 = 0 ∧ M.1 50 1 0 = 0 ∧ M.1 50 1 1 = 0 ∧ M.1 50 1 2 = 0 ∧ ∀ x, x < 64 → M.1 59 1 x = 0
theorem pre_k {X : Cx} {d : Nat} {M : Mem} {b : Nat → Nat} {n m k w : Nat} (hX : StrOk X) (hT : Tok b n m) (hC : TpC M b n) (hk : k ≤ 3) (hw : w ≤ 32) (h11 : M.1 3 0 11 = iN w) : ∃ M6, CA M6 b n m 0 ∧ Cleared M6 ∧ M6.1 3 0 7 = 0 ∧ K3 PrP M M6 ∧ ∀ Q : Option Vl → Mem → Prop, V X (d + 7) 24 46 [some (vR 3 0), some (vI (iN k)), some (vI (iN 0))] [] M6 Q → V X (d + 7) 24 0 [some (vR 3 0), some (vI (iN k)), none] [] M Q := by
  obtain ⟨M4, a1, a2, a3, a4, a5, a6, a7, a8⟩ := pre_all (X := X) (d := d) (p0 := iN k) hX hT hC
  have k5 : K3 (fun c a j => c = 40 ∧ a = 1 ∧ j < 2) M4 (st (st M4 40 1 0 0) 40 1 1 0) := k3_trans (k3_st ⟨rfl, rfl, by omega⟩) (k3_st ⟨rfl, rfl, by omega⟩)
  have c3 : CC X (d + 6) 3 [vR 40 1] M4 none (st (st M4 40 1 0 0) 40 1 1 0) := e3 (w3_0 (fun M1 h1 M2 h2 => ⟨rfl, by rw [h2, h1]⟩))
  obtain ⟨M6, b1, b2, b3, b4, b5, b6⟩ := c15 (X := X) (d := d + 5) (M := st (st M4 40 1 0 0) 40 1 1 0)
  have k6 : K3 (fun c a j => a = 1 ∧ ((c = 40 ∧ j < 2) ∨ (c = 50 ∧ j < 3) ∨ c = 59)) M4 M6 := k3_trans (k3_sub k5 (fun c a j z => by omega)) (k3_sub b6 (fun c a j z => by omega))
  refine ⟨M6, ⟨Nat.zero_le _, by rw [k6 3 0 13 (by omega)]; exact a1, by rw [k6 3 0 9 (by omega)]; exact a5, by rw [k6 3 0 10 (by omega)]; exact a6, a4.k k6 (by omega) (fun _ => by omega) (fun _ => by omega), ⟨0, by decide, ?_⟩, ⟨w, hw, by rw [k6 3 0 11 (by omega), a7 3 0 11 (by simp [PrP])]; exact h11⟩, by rw [k6 3 0 14 (by omega)]; exact a2⟩, ⟨?_, ?_, b2, b3, b4, b5⟩, by rw [k6 3 0 7 (by omega)]; exact a3, k3_trans a7 (k3_sub k6 (fun c a j z => by simp only [PrP]; omega)), fun Q hQ => a8 Q ⟨fun z => absurd z (q_n (by omega)), fun _ => ⟨fun _ => ⟨_, c3, _, b1, hQ⟩, fun z => absurd ((iN_le (b := 3) (by omega) (by decide)).mpr hk) z⟩⟩⟩
  · rw [b6 40 1 1 (by omega), st_at]
    rfl
  · rw [b6 40 1 0 (by omega), st_ne3 (by omega), st_at]
  · rw [b6 40 1 1 (by omega), st_at]
