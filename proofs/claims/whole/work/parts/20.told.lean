/-! lists that are told: wear, caller, worth, offer, worn (by wip/whole/told.py) -/
theorem ix_l {n : Nat} (h : n < 2147483648) : ix (OfNat.ofNat n : Int32) = n := ix_of h
theorem inb_l {n N : Nat} (h : n < N) (h2 : N ≤ 2147483648) : inb (OfNat.ofNat n : Int32) N := inb_of h h2
theorem add80 {X : Cx} {d : Nat} {M : Mem} {a n : Nat} {x y : Int32} (h : M.1 80 a 0 = iN n) (hn : n < 10) : CC X (d + 1) 86 [vR 80 a, vI x, vI y] M (some (vI (iN (n + 1)))) (st (st (st M 81 a n x) 82 a n y) 80 a 0 (iN (n + 1))) := by
  refine e86_80 (w86_0_80 ?_)
  rw [h]
  refine ⟨fun hh => absurd ((iN_le (by decide) (by omega)).mp hh) (by omega), fun _ => ⟨fun _ => ⟨inb_of hn (by decide), ?_⟩, fun hh => absurd ((iN_lt (by omega) (by decide)).mpr hn) hh⟩⟩
  rw [ix_of (by omega)]
  rintro M1 rfl
  have e1 : (st M 81 a n x).1 80 a 0 = iN n := by rw [st_ne3 (fun z => absurd z.1 (by decide))]; exact h
  rw [e1, ix_of (by omega)]
  refine ⟨inb_of hn (by decide), ?_⟩
  rintro M2 rfl
  have e2 : (st (st M 81 a n x) 82 a n y).1 80 a 0 = iN n := by rw [st_ne3 (fun z => absurd z.1 (by decide))]; exact e1
  rw [e2, iN_step]
  rintro M3 rfl
  exact ⟨by rw [st_at], rfl⟩
theorem full80 {X : Cx} {d : Nat} {M : Mem} {a : Nat} {x y : Int32} (h : M.1 80 a 0 = iN 10) : CC X (d + 1) 86 [vR 80 a, vI x, vI y] M (some (vI (-1))) M := by
  refine e86_80 (w86_0_80 ?_)
  rw [h]
  exact ⟨fun _ => ⟨rfl, rfl⟩, fun hh => absurd ((iN_le (a := 10) (b := 10) (by decide) (by decide)).mpr (Nat.le_refl _)) hh⟩
theorem clr80 {X : Cx} {d : Nat} {M : Mem} {a : Nat} : CC X (d + 1) 87 [vR 80 a] M (some (vI 0)) (st M 80 a 0 0) := by
  refine e87_80 (w87_0_80 ?_)
  rintro M1 rfl
  exact ⟨rfl, rfl⟩
theorem add83 {X : Cx} {d : Nat} {M : Mem} {a n : Nat} {x y : Int32} (h : M.1 83 a 0 = iN n) (hn : n < 10) : CC X (d + 1) 86 [vR 83 a, vI x, vI y] M (some (vI (iN (n + 1)))) (st (st (st M 84 a n x) 85 a n y) 83 a 0 (iN (n + 1))) := by
  refine e86_83 (w86_0_83 ?_)
  rw [h]
  refine ⟨fun hh => absurd ((iN_le (by decide) (by omega)).mp hh) (by omega), fun _ => ⟨fun _ => ⟨inb_of hn (by decide), ?_⟩, fun hh => absurd ((iN_lt (by omega) (by decide)).mpr hn) hh⟩⟩
  rw [ix_of (by omega)]
  rintro M1 rfl
  have e1 : (st M 84 a n x).1 83 a 0 = iN n := by rw [st_ne3 (fun z => absurd z.1 (by decide))]; exact h
  rw [e1, ix_of (by omega)]
  refine ⟨inb_of hn (by decide), ?_⟩
  rintro M2 rfl
  have e2 : (st (st M 84 a n x) 85 a n y).1 83 a 0 = iN n := by rw [st_ne3 (fun z => absurd z.1 (by decide))]; exact e1
  rw [e2, iN_step]
  rintro M3 rfl
  exact ⟨by rw [st_at], rfl⟩
theorem full83 {X : Cx} {d : Nat} {M : Mem} {a : Nat} {x y : Int32} (h : M.1 83 a 0 = iN 10) : CC X (d + 1) 86 [vR 83 a, vI x, vI y] M (some (vI (-1))) M := by
  refine e86_83 (w86_0_83 ?_)
  rw [h]
  exact ⟨fun _ => ⟨rfl, rfl⟩, fun hh => absurd ((iN_le (a := 10) (b := 10) (by decide) (by decide)).mpr (Nat.le_refl _)) hh⟩
theorem clr83 {X : Cx} {d : Nat} {M : Mem} {a : Nat} : CC X (d + 1) 87 [vR 83 a] M (some (vI 0)) (st M 83 a 0 0) := by
  refine e87_83 (w87_0_83 ?_)
  rintro M1 rfl
  exact ⟨rfl, rfl⟩
theorem add86 {X : Cx} {d : Nat} {M : Mem} {a n : Nat} {x y : Int32} (h : M.1 86 a 0 = iN n) (hn : n < 20) : CC X (d + 1) 86 [vR 86 a, vI x, vI y] M (some (vI (iN (n + 1)))) (st (st (st M 87 a n x) 88 a n y) 86 a 0 (iN (n + 1))) := by
  refine e86_86 (w86_0_86 ?_)
  rw [h]
  refine ⟨fun hh => absurd ((iN_le (by decide) (by omega)).mp hh) (by omega), fun _ => ⟨fun _ => ⟨inb_of hn (by decide), ?_⟩, fun hh => absurd ((iN_lt (by omega) (by decide)).mpr hn) hh⟩⟩
  rw [ix_of (by omega)]
  rintro M1 rfl
  have e1 : (st M 87 a n x).1 86 a 0 = iN n := by rw [st_ne3 (fun z => absurd z.1 (by decide))]; exact h
  rw [e1, ix_of (by omega)]
  refine ⟨inb_of hn (by decide), ?_⟩
  rintro M2 rfl
  have e2 : (st (st M 87 a n x) 88 a n y).1 86 a 0 = iN n := by rw [st_ne3 (fun z => absurd z.1 (by decide))]; exact e1
  rw [e2, iN_step]
  rintro M3 rfl
  exact ⟨by rw [st_at], rfl⟩
theorem full86 {X : Cx} {d : Nat} {M : Mem} {a : Nat} {x y : Int32} (h : M.1 86 a 0 = iN 20) : CC X (d + 1) 86 [vR 86 a, vI x, vI y] M (some (vI (-1))) M := by
  refine e86_86 (w86_0_86 ?_)
  rw [h]
  exact ⟨fun _ => ⟨rfl, rfl⟩, fun hh => absurd ((iN_le (a := 20) (b := 20) (by decide) (by decide)).mpr (Nat.le_refl _)) hh⟩
theorem clr86 {X : Cx} {d : Nat} {M : Mem} {a : Nat} : CC X (d + 1) 87 [vR 86 a] M (some (vI 0)) (st M 86 a 0 0) := by
  refine e87_86 (w87_0_86 ?_)
  rintro M1 rfl
  exact ⟨rfl, rfl⟩
theorem add89 {X : Cx} {d : Nat} {M : Mem} {a n : Nat} {x y : Int32} (h : M.1 89 a 0 = iN n) (hn : n < 8) : CC X (d + 1) 86 [vR 89 a, vI x, vI y] M (some (vI (iN (n + 1)))) (st (st (st M 90 a n x) 91 a n y) 89 a 0 (iN (n + 1))) := by
  refine e86_89 (w86_0_89 ?_)
  rw [h]
  refine ⟨fun hh => absurd ((iN_le (by decide) (by omega)).mp hh) (by omega), fun _ => ⟨fun _ => ⟨inb_of hn (by decide), ?_⟩, fun hh => absurd ((iN_lt (by omega) (by decide)).mpr hn) hh⟩⟩
  rw [ix_of (by omega)]
  rintro M1 rfl
  have e1 : (st M 90 a n x).1 89 a 0 = iN n := by rw [st_ne3 (fun z => absurd z.1 (by decide))]; exact h
  rw [e1, ix_of (by omega)]
  refine ⟨inb_of hn (by decide), ?_⟩
  rintro M2 rfl
  have e2 : (st (st M 90 a n x) 91 a n y).1 89 a 0 = iN n := by rw [st_ne3 (fun z => absurd z.1 (by decide))]; exact e1
  rw [e2, iN_step]
  rintro M3 rfl
  exact ⟨by rw [st_at], rfl⟩
theorem full89 {X : Cx} {d : Nat} {M : Mem} {a : Nat} {x y : Int32} (h : M.1 89 a 0 = iN 8) : CC X (d + 1) 86 [vR 89 a, vI x, vI y] M (some (vI (-1))) M := by
  refine e86_89 (w86_0_89 ?_)
  rw [h]
  exact ⟨fun _ => ⟨rfl, rfl⟩, fun hh => absurd ((iN_le (a := 8) (b := 8) (by decide) (by decide)).mpr (Nat.le_refl _)) hh⟩
theorem clr89 {X : Cx} {d : Nat} {M : Mem} {a : Nat} : CC X (d + 1) 87 [vR 89 a] M (some (vI 0)) (st M 89 a 0 0) := by
  refine e87_89 (w87_0_89 ?_)
  rintro M1 rfl
  exact ⟨rfl, rfl⟩
theorem add92 {X : Cx} {d : Nat} {M : Mem} {a n : Nat} {x y : Int32} (h : M.1 92 a 0 = iN n) (hn : n < 12) : CC X (d + 1) 86 [vR 92 a, vI x, vI y] M (some (vI (iN (n + 1)))) (st (st (st M 93 a n x) 94 a n y) 92 a 0 (iN (n + 1))) := by
  refine e86_92 (w86_0_92 ?_)
  rw [h]
  refine ⟨fun hh => absurd ((iN_le (by decide) (by omega)).mp hh) (by omega), fun _ => ⟨fun _ => ⟨inb_of hn (by decide), ?_⟩, fun hh => absurd ((iN_lt (by omega) (by decide)).mpr hn) hh⟩⟩
  rw [ix_of (by omega)]
  rintro M1 rfl
  have e1 : (st M 93 a n x).1 92 a 0 = iN n := by rw [st_ne3 (fun z => absurd z.1 (by decide))]; exact h
  rw [e1, ix_of (by omega)]
  refine ⟨inb_of hn (by decide), ?_⟩
  rintro M2 rfl
  have e2 : (st (st M 93 a n x) 94 a n y).1 92 a 0 = iN n := by rw [st_ne3 (fun z => absurd z.1 (by decide))]; exact e1
  rw [e2, iN_step]
  rintro M3 rfl
  exact ⟨by rw [st_at], rfl⟩
theorem full92 {X : Cx} {d : Nat} {M : Mem} {a : Nat} {x y : Int32} (h : M.1 92 a 0 = iN 12) : CC X (d + 1) 86 [vR 92 a, vI x, vI y] M (some (vI (-1))) M := by
  refine e86_92 (w86_0_92 ?_)
  rw [h]
  exact ⟨fun _ => ⟨rfl, rfl⟩, fun hh => absurd ((iN_le (a := 12) (b := 12) (by decide) (by decide)).mpr (Nat.le_refl _)) hh⟩
theorem clr92 {X : Cx} {d : Nat} {M : Mem} {a : Nat} : CC X (d + 1) 87 [vR 92 a] M (some (vI 0)) (st M 92 a 0 0) := by
  refine e87_92 (w87_0_92 ?_)
  rintro M1 rfl
  exact ⟨rfl, rfl⟩
/-- wear, the class -/
theorem c128 {X : Cx} {d : Nat} {M : Mem} {n : Nat} {x y : Int32} (h : M.1 80 0 0 = iN n) (hn : n ≤ 10) :
    (x = -1 → CC X (d + 2) 128 [vR 2 0, vI x, vI y] M (some (vI 0)) (st M 80 0 0 0)) ∧ (¬ x = -1 → ((inR x 0 99 && inR y 0 99) = false ∨ n = 10) → CC X (d + 2) 128 [vR 2 0, vI x, vI y] M (some (vI (-1))) M) ∧
    (¬ x = -1 → (inR x 0 99 && inR y 0 99) = true → n < 10 → CC X (d + 2) 128 [vR 2 0, vI x, vI y] M (some (vI (iN (n + 1)))) (st (st (st M 81 0 n x) 82 0 n y) 80 0 0 (iN (n + 1)))) := by
  refine ⟨fun hx => e128 (w128_0 ⟨fun h1 => absurd hx h1, fun _ => ⟨_, _, clr80, rfl, rfl⟩⟩), fun hx hb => e128 (w128_0 ⟨fun _ => ⟨_, _, c146, bI_if (fun _ => ⟨fun _ => ⟨rfl, rfl⟩, fun z => absurd rfl z⟩) (fun h1 => ⟨_, _, c146, bI_if (fun _ => ⟨fun _ => ⟨rfl, rfl⟩, fun z => absurd rfl z⟩) (fun h2 => ⟨fun z => absurd z (by decide), fun _ => ?_⟩)⟩)⟩, fun z => absurd z hx⟩), fun hx hb hlt => e128 (w128_0 ⟨fun _ => ⟨_, _, c146, bI_if (fun h1 => ?_) (fun h1 => ⟨_, _, c146, bI_if (fun h2 => ?_) (fun h2 => ⟨fun z => absurd z (by decide), fun _ => ⟨_, _, add80 h hlt, rfl, rfl⟩⟩)⟩)⟩, fun z => absurd z hx⟩)⟩
  · rcases hb with hb | hb
    · rw [h1, h2] at hb
      cases hb
    · subst hb
      exact ⟨_, _, full80 h, rfl, rfl⟩
  · rw [h1] at hb
    cases hb
  · rw [h1, h2] at hb
    cases hb
/-- wear, the reference -/
theorem c249 {X : Cx} {d : Nat} {M : Mem} {n : Nat} {x y : Int32} (h : M.1 101 0 236 = iN n) (hn : n ≤ 10) :
    (x = -1 → CC X (d + 2) 249 [vR 100 0, vI x, vI y] M (some (vI 0)) (st M 101 0 236 0)) ∧ (¬ x = -1 → ((inR x 0 99 && inR y 0 99) = false ∨ n = 10) → CC X (d + 2) 249 [vR 100 0, vI x, vI y] M (some (vI (-1))) M) ∧
    (¬ x = -1 → (inR x 0 99 && inR y 0 99) = true → n < 10 → CC X (d + 2) 249 [vR 100 0, vI x, vI y] M (some (vI (iN (n + 1)))) (st (st (st M 101 0 (557 + 2 * n) x) 101 0 (557 + 2 * n + 1) y) 101 0 236 (iN (n + 1)))) := by
  have hi : inb 236 2129 := inb_l (by decide) (by decide)
  have hx : ix 236 = 236 := ix_l (by decide)
  have hcap : M.1 101 0 (ix 236) = 10 ↔ n = 10 := by rw [hx, h]; exact iN_inj (b := 10) (by omega) (by decide)
  refine ⟨fun hx1 => e249 (w249_0 ⟨fun h1 => absurd hx1 h1, fun _ => ⟨hi, fun M1 hM => ⟨rfl, by rw [hM, hx]⟩⟩⟩), fun hx1 hb => e249 (w249_0 ⟨fun _ => ⟨_, _, c151, bI_if (fun _ => ⟨rfl, rfl⟩) (fun h1 => ⟨_, _, c151, bI_if (fun _ => ⟨rfl, rfl⟩) (fun h2 => ⟨hi, fun z => ?_, fun _ => ⟨rfl, rfl⟩⟩)⟩)⟩, fun z => absurd z hx1⟩), fun hx1 hb hlt => e249 (w249_0 ⟨fun _ => ⟨_, _, c151, bI_if (fun h1 => ?_) (fun h1 => ⟨_, _, c151, bI_if (fun h2 => ?_) (fun h2 => ⟨hi, fun _ => ⟨hi, ?_⟩, fun z => absurd (hcap.mp z) (by omega)⟩)⟩)⟩, fun z => absurd z hx1⟩)⟩
  · rcases hb with hb | hb
    · rw [h1, h2] at hb
      cases hb
    · exact absurd (hcap.mpr hb) z
  · rw [h1] at hb
    cases hb
  · rw [h1, h2] at hb
    cases hb
  · have e1 : 557 + 2 * M.1 101 0 (ix 236) = iN (557 + 2 * n) := by rw [hx, h]; simp only [iN_lit, iN_mul, iN_add]
    rw [e1, ix_of (by omega)]
    refine ⟨inb_of (by omega) (by decide), ?_⟩
    rintro M3 rfl
    have g1 : (st M 101 0 (557 + 2 * n) x).1 101 0 236 = iN n := by rw [st_ne3 (by omega)]; exact h
    have e2 : 557 + 2 * (st M 101 0 (557 + 2 * n) x).1 101 0 (ix 236) + 1 = iN (557 + 2 * n + 1) := by rw [hx, g1]; simp only [iN_lit, iN_mul, iN_add]
    rw [e2, ix_of (by omega)]
    refine ⟨hi, inb_of (by omega) (by decide), ?_⟩
    rintro M4 rfl
    have g2 : (st (st M 101 0 (557 + 2 * n) x) 101 0 (557 + 2 * n + 1) y).1 101 0 236 = iN n := by rw [st_ne3 (by omega)]; exact g1
    rw [hx, g2, iN_step]
    refine ⟨hi, hi, ?_⟩
    rintro M5 rfl
    exact ⟨hi, by rw [st_at], rfl⟩
/-- wear, both -/
theorem op128 {X : Cx} {d : Nat} {M : Mem} {n : Nat} {x y : Int32} (h : ToldR M 80 0 (M.1 101 0) 236 557 2 10 (fun x y => inR x 0 99 && inR y 0 99) n) : ∃ (r : Int32) (M1 M2 : Mem), CC X (d + 2) 128 [vR 2 0, vI x, vI y] M (some (vI r)) M1 ∧ CC X (d + 2) 249 [vR 100 0, vI x, vI y] M1 (some (vI r)) M2 ∧ (∃ n2, ToldR M2 80 0 (M2.1 101 0) 236 557 2 10 (fun x y => inR x 0 99 && inR y 0 99) n2) ∧ Keep (fun c a => (c = 80 ∨ c = 81 ∨ c = 82) ∧ a = 0) (fun k => k = 236 ∨ (557 ≤ k ∧ k < 577)) M M2 := by
  have hK := c128 (X := X) (d := d) (x := x) (y := y) h.2.1 h.1
  by_cases hx : x = -1
  · have hm : (st M 80 0 0 0).1 101 0 236 = iN n := by rw [st_ne3 (fun z => absurd z.1 (by decide))]; exact h.2.2.1
    refine ⟨_, _, _, hK.1 hx, (c249 hm h.1).1 hx, ⟨0, ToldR.clear (by rw [st_ne3 (fun z => absurd z.1 (by decide)), st_at]) (by rw [w_st, upd_at])⟩, kp_trans (kp_st (by simp) (by decide)) (kp_w (by simp))⟩
  · by_cases hb : (inR x 0 99 && inR y 0 99) = true
    · by_cases hlt : n < 10
      · have hm : (st (st (st M 81 0 n x) 82 0 n y) 80 0 0 (iN (n + 1))).1 101 0 236 = iN n := by
          rw [st_ne3 (fun z => absurd z.1 (by decide)), st_ne3 (fun z => absurd z.1 (by decide)), st_ne3 (fun z => absurd z.1 (by decide))]; exact h.2.2.1
        refine ⟨_, _, _, hK.2.2 hx hb hlt, (c249 hm h.1).2.2 hx hb hlt, ⟨n + 1, ToldR.push h hlt (by decide) hb (x := x) (y := y) ?_ ?_ ?_ ?_ ?_ ?_ ?_⟩, kp_trans (kp_trans (kp_trans (kp_st (c := 81) (by simp) (by decide)) (kp_st (c := 82) (by simp) (by decide))) (kp_st (c := 80) (by simp) (by decide))) (kp_trans (kp_trans (kp_w (by omega)) (kp_w (by omega))) (kp_w (by omega)))⟩
        · rw [st_ne3 (fun z => absurd z.1 (by decide))]; rw [st_ne3 (fun z => absurd z.1 (by decide))]; rw [st_ne3 (fun z => absurd z.1 (by decide))]; rw [st_at]
        · rw [st_ne (fun z => absurd z.1 (by decide))]; rw [st_ne (fun z => absurd z.1 (by decide))]; rw [st_ne (fun z => absurd z.1 (by decide))]; rw [st_ne (fun z => absurd z.1 (by decide)), st_ne (fun z => absurd z.1 (by decide)), st_eq]
        · rw [st_ne (fun z => absurd z.1 (by decide))]; rw [st_ne (fun z => absurd z.1 (by decide))]; rw [st_ne (fun z => absurd z.1 (by decide))]; rw [st_ne (fun z => absurd z.1 (by decide)), st_eq, st_ne (fun z => absurd z.1 (by decide))]
        · rw [w_st, upd_at]
        · rw [w_st, upd_ne (by omega), w_st, upd_ne (by omega), w_st, upd_at]
        · intro _; rw [w_st, upd_ne (by omega), w_st, upd_at]
        · intro k h3 h4; rw [w_st, upd_ne (by omega), w_st, upd_ne (by omega), w_st, upd_ne (by omega)]; rw [st_ne (fun z => absurd z.1 (by decide)), st_ne (fun z => absurd z.1 (by decide)), st_ne (fun z => absurd z.1 (by decide))]
      · have hc : n = 10 := by have := h.1; omega
        exact ⟨_, _, _, hK.2.1 hx (Or.inr hc), (c249 h.2.2.1 h.1).2.1 hx (Or.inr hc), ⟨n, h⟩, kp_refl⟩
    · have hb : (inR x 0 99 && inR y 0 99) = false := by simpa using hb
      exact ⟨_, _, _, hK.2.1 hx (Or.inl hb), (c249 h.2.2.1 h.1).2.1 hx (Or.inl hb), ⟨n, h⟩, kp_refl⟩
/-- caller, the class -/
theorem c131 {X : Cx} {d : Nat} {M : Mem} {n : Nat} {x y : Int32} (h : M.1 83 0 0 = iN n) (hn : n ≤ 10) :
    (x = -1 → CC X (d + 2) 131 [vR 2 0, vI x, vI y] M (some (vI 0)) (st M 83 0 0 0)) ∧ (¬ x = -1 → ((inR x 0 99 && inR y 1 30) = false ∨ n = 10) → CC X (d + 2) 131 [vR 2 0, vI x, vI y] M (some (vI (-1))) M) ∧
    (¬ x = -1 → (inR x 0 99 && inR y 1 30) = true → n < 10 → CC X (d + 2) 131 [vR 2 0, vI x, vI y] M (some (vI (iN (n + 1)))) (st (st (st M 84 0 n x) 85 0 n y) 83 0 0 (iN (n + 1)))) := by
  refine ⟨fun hx => e131 (w131_0 ⟨fun h1 => absurd hx h1, fun _ => ⟨_, _, clr83, rfl, rfl⟩⟩), fun hx hb => e131 (w131_0 ⟨fun _ => ⟨_, _, c146, bI_if (fun _ => ⟨fun _ => ⟨rfl, rfl⟩, fun z => absurd rfl z⟩) (fun h1 => ⟨_, _, c146, bI_if (fun _ => ⟨fun _ => ⟨rfl, rfl⟩, fun z => absurd rfl z⟩) (fun h2 => ⟨fun z => absurd z (by decide), fun _ => ?_⟩)⟩)⟩, fun z => absurd z hx⟩), fun hx hb hlt => e131 (w131_0 ⟨fun _ => ⟨_, _, c146, bI_if (fun h1 => ?_) (fun h1 => ⟨_, _, c146, bI_if (fun h2 => ?_) (fun h2 => ⟨fun z => absurd z (by decide), fun _ => ⟨_, _, add83 h hlt, rfl, rfl⟩⟩)⟩)⟩, fun z => absurd z hx⟩)⟩
  · rcases hb with hb | hb
    · rw [h1, h2] at hb
      cases hb
    · subst hb
      exact ⟨_, _, full83 h, rfl, rfl⟩
  · rw [h1] at hb
    cases hb
  · rw [h1, h2] at hb
    cases hb
/-- caller, the reference -/
theorem c253 {X : Cx} {d : Nat} {M : Mem} {n : Nat} {x y : Int32} (h : M.1 101 0 237 = iN n) (hn : n ≤ 10) :
    (x = -1 → CC X (d + 2) 253 [vR 100 0, vI x, vI y] M (some (vI 0)) (st M 101 0 237 0)) ∧ (¬ x = -1 → ((inR x 0 99 && inR y 1 30) = false ∨ n = 10) → CC X (d + 2) 253 [vR 100 0, vI x, vI y] M (some (vI (-1))) M) ∧
    (¬ x = -1 → (inR x 0 99 && inR y 1 30) = true → n < 10 → CC X (d + 2) 253 [vR 100 0, vI x, vI y] M (some (vI (iN (n + 1)))) (st (st (st M 101 0 (577 + 2 * n) x) 101 0 (577 + 2 * n + 1) y) 101 0 237 (iN (n + 1)))) := by
  have hi : inb 237 2129 := inb_l (by decide) (by decide)
  have hx : ix 237 = 237 := ix_l (by decide)
  have hcap : M.1 101 0 (ix 237) = 10 ↔ n = 10 := by rw [hx, h]; exact iN_inj (b := 10) (by omega) (by decide)
  refine ⟨fun hx1 => e253 (w253_0 ⟨fun h1 => absurd hx1 h1, fun _ => ⟨hi, fun M1 hM => ⟨rfl, by rw [hM, hx]⟩⟩⟩), fun hx1 hb => e253 (w253_0 ⟨fun _ => ⟨_, _, c151, bI_if (fun _ => ⟨rfl, rfl⟩) (fun h1 => ⟨_, _, c151, bI_if (fun _ => ⟨rfl, rfl⟩) (fun h2 => ⟨hi, fun z => ?_, fun _ => ⟨rfl, rfl⟩⟩)⟩)⟩, fun z => absurd z hx1⟩), fun hx1 hb hlt => e253 (w253_0 ⟨fun _ => ⟨_, _, c151, bI_if (fun h1 => ?_) (fun h1 => ⟨_, _, c151, bI_if (fun h2 => ?_) (fun h2 => ⟨hi, fun _ => ⟨hi, ?_⟩, fun z => absurd (hcap.mp z) (by omega)⟩)⟩)⟩, fun z => absurd z hx1⟩)⟩
  · rcases hb with hb | hb
    · rw [h1, h2] at hb
      cases hb
    · exact absurd (hcap.mpr hb) z
  · rw [h1] at hb
    cases hb
  · rw [h1, h2] at hb
    cases hb
  · have e1 : 577 + 2 * M.1 101 0 (ix 237) = iN (577 + 2 * n) := by rw [hx, h]; simp only [iN_lit, iN_mul, iN_add]
    rw [e1, ix_of (by omega)]
    refine ⟨inb_of (by omega) (by decide), ?_⟩
    rintro M3 rfl
    have g1 : (st M 101 0 (577 + 2 * n) x).1 101 0 237 = iN n := by rw [st_ne3 (by omega)]; exact h
    have e2 : 577 + 2 * (st M 101 0 (577 + 2 * n) x).1 101 0 (ix 237) + 1 = iN (577 + 2 * n + 1) := by rw [hx, g1]; simp only [iN_lit, iN_mul, iN_add]
    rw [e2, ix_of (by omega)]
    refine ⟨hi, inb_of (by omega) (by decide), ?_⟩
    rintro M4 rfl
    have g2 : (st (st M 101 0 (577 + 2 * n) x) 101 0 (577 + 2 * n + 1) y).1 101 0 237 = iN n := by rw [st_ne3 (by omega)]; exact g1
    rw [hx, g2, iN_step]
    refine ⟨hi, hi, ?_⟩
    rintro M5 rfl
    exact ⟨hi, by rw [st_at], rfl⟩
/-- caller, both -/
theorem op131 {X : Cx} {d : Nat} {M : Mem} {n : Nat} {x y : Int32} (h : ToldR M 83 0 (M.1 101 0) 237 577 2 10 (fun x y => inR x 0 99 && inR y 1 30) n) : ∃ (r : Int32) (M1 M2 : Mem), CC X (d + 2) 131 [vR 2 0, vI x, vI y] M (some (vI r)) M1 ∧ CC X (d + 2) 253 [vR 100 0, vI x, vI y] M1 (some (vI r)) M2 ∧ (∃ n2, ToldR M2 83 0 (M2.1 101 0) 237 577 2 10 (fun x y => inR x 0 99 && inR y 1 30) n2) ∧ Keep (fun c a => (c = 83 ∨ c = 84 ∨ c = 85) ∧ a = 0) (fun k => k = 237 ∨ (577 ≤ k ∧ k < 597)) M M2 := by
  have hK := c131 (X := X) (d := d) (x := x) (y := y) h.2.1 h.1
  by_cases hx : x = -1
  · have hm : (st M 83 0 0 0).1 101 0 237 = iN n := by rw [st_ne3 (fun z => absurd z.1 (by decide))]; exact h.2.2.1
    refine ⟨_, _, _, hK.1 hx, (c253 hm h.1).1 hx, ⟨0, ToldR.clear (by rw [st_ne3 (fun z => absurd z.1 (by decide)), st_at]) (by rw [w_st, upd_at])⟩, kp_trans (kp_st (by simp) (by decide)) (kp_w (by simp))⟩
  · by_cases hb : (inR x 0 99 && inR y 1 30) = true
    · by_cases hlt : n < 10
      · have hm : (st (st (st M 84 0 n x) 85 0 n y) 83 0 0 (iN (n + 1))).1 101 0 237 = iN n := by
          rw [st_ne3 (fun z => absurd z.1 (by decide)), st_ne3 (fun z => absurd z.1 (by decide)), st_ne3 (fun z => absurd z.1 (by decide))]; exact h.2.2.1
        refine ⟨_, _, _, hK.2.2 hx hb hlt, (c253 hm h.1).2.2 hx hb hlt, ⟨n + 1, ToldR.push h hlt (by decide) hb (x := x) (y := y) ?_ ?_ ?_ ?_ ?_ ?_ ?_⟩, kp_trans (kp_trans (kp_trans (kp_st (c := 84) (by simp) (by decide)) (kp_st (c := 85) (by simp) (by decide))) (kp_st (c := 83) (by simp) (by decide))) (kp_trans (kp_trans (kp_w (by omega)) (kp_w (by omega))) (kp_w (by omega)))⟩
        · rw [st_ne3 (fun z => absurd z.1 (by decide))]; rw [st_ne3 (fun z => absurd z.1 (by decide))]; rw [st_ne3 (fun z => absurd z.1 (by decide))]; rw [st_at]
        · rw [st_ne (fun z => absurd z.1 (by decide))]; rw [st_ne (fun z => absurd z.1 (by decide))]; rw [st_ne (fun z => absurd z.1 (by decide))]; rw [st_ne (fun z => absurd z.1 (by decide)), st_ne (fun z => absurd z.1 (by decide)), st_eq]
        · rw [st_ne (fun z => absurd z.1 (by decide))]; rw [st_ne (fun z => absurd z.1 (by decide))]; rw [st_ne (fun z => absurd z.1 (by decide))]; rw [st_ne (fun z => absurd z.1 (by decide)), st_eq, st_ne (fun z => absurd z.1 (by decide))]
        · rw [w_st, upd_at]
        · rw [w_st, upd_ne (by omega), w_st, upd_ne (by omega), w_st, upd_at]
        · intro _; rw [w_st, upd_ne (by omega), w_st, upd_at]
        · intro k h3 h4; rw [w_st, upd_ne (by omega), w_st, upd_ne (by omega), w_st, upd_ne (by omega)]; rw [st_ne (fun z => absurd z.1 (by decide)), st_ne (fun z => absurd z.1 (by decide)), st_ne (fun z => absurd z.1 (by decide))]
      · have hc : n = 10 := by have := h.1; omega
        exact ⟨_, _, _, hK.2.1 hx (Or.inr hc), (c253 h.2.2.1 h.1).2.1 hx (Or.inr hc), ⟨n, h⟩, kp_refl⟩
    · have hb : (inR x 0 99 && inR y 1 30) = false := by simpa using hb
      exact ⟨_, _, _, hK.2.1 hx (Or.inl hb), (c253 h.2.2.1 h.1).2.1 hx (Or.inl hb), ⟨n, h⟩, kp_refl⟩
/-- worth, the class -/
theorem c133 {X : Cx} {d : Nat} {M : Mem} {n : Nat} {x : Int32} (h : M.1 86 0 0 = iN n) (hn : n ≤ 20) :
    (x = -1 → CC X (d + 2) 133 [vR 2 0, vI x] M (some (vI 0)) (st M 86 0 0 0)) ∧ (¬ x = -1 → ((inR x 0 99) = false ∨ n = 20) → CC X (d + 2) 133 [vR 2 0, vI x] M (some (vI (-1))) M) ∧
    (¬ x = -1 → (inR x 0 99) = true → n < 20 → CC X (d + 2) 133 [vR 2 0, vI x] M (some (vI (iN (n + 1)))) (st (st (st M 87 0 n x) 88 0 n 0) 86 0 0 (iN (n + 1)))) := by
  refine ⟨fun hx => e133 (w133_0 ⟨fun h1 => absurd hx h1, fun _ => ⟨_, _, clr86, rfl, rfl⟩⟩), fun hx hb => e133 (w133_0 ⟨fun _ => ⟨_, _, c146, bI_if (fun _ => ⟨rfl, rfl⟩) (fun h1 => ?_)⟩, fun z => absurd z hx⟩), fun hx hb hlt => e133 (w133_0 ⟨fun _ => ⟨_, _, c146, bI_if (fun h1 => ?_) (fun h1 => ⟨_, _, add86 h hlt, rfl, rfl⟩)⟩, fun z => absurd z hx⟩)⟩
  · rcases hb with hb | hb
    · rw [h1] at hb
      cases hb
    · subst hb
      exact ⟨_, _, full86 h, rfl, rfl⟩
  · rw [h1] at hb
    cases hb
/-- worth, the reference -/
theorem c256 {X : Cx} {d : Nat} {M : Mem} {n : Nat} {x : Int32} (h : M.1 101 0 238 = iN n) (hn : n ≤ 20) :
    (x = -1 → CC X (d + 2) 256 [vR 100 0, vI x] M (some (vI 0)) (st M 101 0 238 0)) ∧ (¬ x = -1 → ((inR x 0 99) = false ∨ n = 20) → CC X (d + 2) 256 [vR 100 0, vI x] M (some (vI (-1))) M) ∧
    (¬ x = -1 → (inR x 0 99) = true → n < 20 → CC X (d + 2) 256 [vR 100 0, vI x] M (some (vI (iN (n + 1)))) (st (st M 101 0 (597 + n) x) 101 0 238 (iN (n + 1)))) := by
  have hi : inb 238 2129 := inb_l (by decide) (by decide)
  have hx : ix 238 = 238 := ix_l (by decide)
  have hcap : M.1 101 0 (ix 238) = 20 ↔ n = 20 := by rw [hx, h]; exact iN_inj (b := 20) (by omega) (by decide)
  refine ⟨fun hx1 => e256 (w256_0 ⟨fun h1 => absurd hx1 h1, fun _ => ⟨hi, fun M1 hM => ⟨rfl, by rw [hM, hx]⟩⟩⟩), fun hx1 hb => e256 (w256_0 ⟨fun _ => ⟨_, _, c151, bI_if (fun _ => ⟨rfl, rfl⟩) (fun h1 => ⟨hi, fun z => ?_, fun _ => ⟨rfl, rfl⟩⟩)⟩, fun z => absurd z hx1⟩), fun hx1 hb hlt => e256 (w256_0 ⟨fun _ => ⟨_, _, c151, bI_if (fun h1 => ?_) (fun h1 => ⟨hi, fun _ => ⟨hi, ?_⟩, fun z => absurd (hcap.mp z) (by omega)⟩)⟩, fun z => absurd z hx1⟩)⟩
  · rcases hb with hb | hb
    · rw [h1] at hb
      cases hb
    · exact absurd (hcap.mpr hb) z
  · rw [h1] at hb
    cases hb
  · have e1 : 597 + M.1 101 0 (ix 238) = iN (597 + n) := by rw [hx, h]; simp only [iN_lit, iN_add]
    rw [e1, ix_of (by omega)]
    refine ⟨inb_of (by omega) (by decide), ?_⟩
    rintro M3 rfl
    have g2 : (st M 101 0 (597 + n) x).1 101 0 238 = iN n := by rw [st_ne3 (by omega)]; exact h
    rw [hx, g2, iN_step]
    refine ⟨hi, hi, ?_⟩
    rintro M5 rfl
    exact ⟨hi, by rw [st_at], rfl⟩
/-- worth, both -/
theorem op133 {X : Cx} {d : Nat} {M : Mem} {n : Nat} {x : Int32} (h : ToldR M 86 0 (M.1 101 0) 238 597 1 20 (fun x _ => inR x 0 99) n) : ∃ (r : Int32) (M1 M2 : Mem), CC X (d + 2) 133 [vR 2 0, vI x] M (some (vI r)) M1 ∧ CC X (d + 2) 256 [vR 100 0, vI x] M1 (some (vI r)) M2 ∧ (∃ n2, ToldR M2 86 0 (M2.1 101 0) 238 597 1 20 (fun x _ => inR x 0 99) n2) ∧ Keep (fun c a => (c = 86 ∨ c = 87 ∨ c = 88) ∧ a = 0) (fun k => k = 238 ∨ (597 ≤ k ∧ k < 617)) M M2 := by
  have hK := c133 (X := X) (d := d) (x := x) h.2.1 h.1
  by_cases hx : x = -1
  · have hm : (st M 86 0 0 0).1 101 0 238 = iN n := by rw [st_ne3 (fun z => absurd z.1 (by decide))]; exact h.2.2.1
    refine ⟨_, _, _, hK.1 hx, (c256 hm h.1).1 hx, ⟨0, ToldR.clear (by rw [st_ne3 (fun z => absurd z.1 (by decide)), st_at]) (by rw [w_st, upd_at])⟩, kp_trans (kp_st (by simp) (by decide)) (kp_w (by simp))⟩
  · by_cases hb : (inR x 0 99) = true
    · by_cases hlt : n < 20
      · have hm : (st (st (st M 87 0 n x) 88 0 n 0) 86 0 0 (iN (n + 1))).1 101 0 238 = iN n := by
          rw [st_ne3 (fun z => absurd z.1 (by decide)), st_ne3 (fun z => absurd z.1 (by decide)), st_ne3 (fun z => absurd z.1 (by decide))]; exact h.2.2.1
        refine ⟨_, _, _, hK.2.2 hx hb hlt, (c256 hm h.1).2.2 hx hb hlt, ⟨n + 1, ToldR.push h hlt (by decide) hb (x := x) (y := 0) ?_ ?_ ?_ ?_ ?_ ?_ ?_⟩, kp_trans (kp_trans (kp_trans (kp_st (c := 87) (by simp) (by decide)) (kp_st (c := 88) (by simp) (by decide))) (kp_st (c := 86) (by simp) (by decide))) (kp_trans (kp_w (by omega)) (kp_w (by omega)))⟩
        · rw [st_ne3 (fun z => absurd z.1 (by decide))]; rw [st_ne3 (fun z => absurd z.1 (by decide))]; rw [st_at]
        · rw [st_ne (fun z => absurd z.1 (by decide))]; rw [st_ne (fun z => absurd z.1 (by decide))]; rw [st_ne (fun z => absurd z.1 (by decide)), st_ne (fun z => absurd z.1 (by decide)), st_eq]
        · rw [st_ne (fun z => absurd z.1 (by decide))]; rw [st_ne (fun z => absurd z.1 (by decide))]; rw [st_ne (fun z => absurd z.1 (by decide)), st_eq, st_ne (fun z => absurd z.1 (by decide))]
        · rw [w_st, upd_at]
        · rw [show 597 + 1 * n = 597 + n by omega, w_st, upd_ne (by omega), w_st, upd_at]
        · intro z; omega
        · intro k h3 h4; rw [w_st, upd_ne (by omega), w_st, upd_ne (by omega)]; rw [st_ne (fun z => absurd z.1 (by decide)), st_ne (fun z => absurd z.1 (by decide)), st_ne (fun z => absurd z.1 (by decide))]
      · have hc : n = 20 := by have := h.1; omega
        exact ⟨_, _, _, hK.2.1 hx (Or.inr hc), (c256 h.2.2.1 h.1).2.1 hx (Or.inr hc), ⟨n, h⟩, kp_refl⟩
    · have hb : (inR x 0 99) = false := by simpa using hb
      exact ⟨_, _, _, hK.2.1 hx (Or.inl hb), (c256 h.2.2.1 h.1).2.1 hx (Or.inl hb), ⟨n, h⟩, kp_refl⟩
/-- offer, the class -/
theorem c135 {X : Cx} {d : Nat} {M : Mem} {n : Nat} {x y : Int32} (h : M.1 89 0 0 = iN n) (hn : n ≤ 8) :
    (x = -1 → CC X (d + 2) 135 [vR 2 0, vI x, vI y] M (some (vI 0)) (st M 89 0 0 0)) ∧ (¬ x = -1 → ((inR x 0 3 && inR y 0 99) = false ∨ n = 8) → CC X (d + 2) 135 [vR 2 0, vI x, vI y] M (some (vI (-1))) M) ∧
    (¬ x = -1 → (inR x 0 3 && inR y 0 99) = true → n < 8 → CC X (d + 2) 135 [vR 2 0, vI x, vI y] M (some (vI (iN (n + 1)))) (st (st (st M 90 0 n x) 91 0 n y) 89 0 0 (iN (n + 1)))) := by
  refine ⟨fun hx => e135 (w135_0 ⟨fun h1 => absurd hx h1, fun _ => ⟨_, _, clr89, rfl, rfl⟩⟩), fun hx hb => e135 (w135_0 ⟨fun _ => ⟨_, _, c146, bI_if (fun _ => ⟨fun _ => ⟨rfl, rfl⟩, fun z => absurd rfl z⟩) (fun h1 => ⟨_, _, c146, bI_if (fun _ => ⟨fun _ => ⟨rfl, rfl⟩, fun z => absurd rfl z⟩) (fun h2 => ⟨fun z => absurd z (by decide), fun _ => ?_⟩)⟩)⟩, fun z => absurd z hx⟩), fun hx hb hlt => e135 (w135_0 ⟨fun _ => ⟨_, _, c146, bI_if (fun h1 => ?_) (fun h1 => ⟨_, _, c146, bI_if (fun h2 => ?_) (fun h2 => ⟨fun z => absurd z (by decide), fun _ => ⟨_, _, add89 h hlt, rfl, rfl⟩⟩)⟩)⟩, fun z => absurd z hx⟩)⟩
  · rcases hb with hb | hb
    · rw [h1, h2] at hb
      cases hb
    · subst hb
      exact ⟨_, _, full89 h, rfl, rfl⟩
  · rw [h1] at hb
    cases hb
  · rw [h1, h2] at hb
    cases hb
/-- offer, the reference -/
theorem c259 {X : Cx} {d : Nat} {M : Mem} {n : Nat} {x y : Int32} (h : M.1 101 0 239 = iN n) (hn : n ≤ 8) :
    (x = -1 → CC X (d + 2) 259 [vR 100 0, vI x, vI y] M (some (vI 0)) (st M 101 0 239 0)) ∧ (¬ x = -1 → ((inR x 0 3 && inR y 0 99) = false ∨ n = 8) → CC X (d + 2) 259 [vR 100 0, vI x, vI y] M (some (vI (-1))) M) ∧
    (¬ x = -1 → (inR x 0 3 && inR y 0 99) = true → n < 8 → CC X (d + 2) 259 [vR 100 0, vI x, vI y] M (some (vI (iN (n + 1)))) (st (st (st M 101 0 (617 + 2 * n) x) 101 0 (617 + 2 * n + 1) y) 101 0 239 (iN (n + 1)))) := by
  have hi : inb 239 2129 := inb_l (by decide) (by decide)
  have hx : ix 239 = 239 := ix_l (by decide)
  have hcap : M.1 101 0 (ix 239) = 8 ↔ n = 8 := by rw [hx, h]; exact iN_inj (b := 8) (by omega) (by decide)
  refine ⟨fun hx1 => e259 (w259_0 ⟨fun h1 => absurd hx1 h1, fun _ => ⟨hi, fun M1 hM => ⟨rfl, by rw [hM, hx]⟩⟩⟩), fun hx1 hb => e259 (w259_0 ⟨fun _ => ⟨_, _, c151, bI_if (fun _ => ⟨rfl, rfl⟩) (fun h1 => ⟨_, _, c151, bI_if (fun _ => ⟨rfl, rfl⟩) (fun h2 => ⟨hi, fun z => ?_, fun _ => ⟨rfl, rfl⟩⟩)⟩)⟩, fun z => absurd z hx1⟩), fun hx1 hb hlt => e259 (w259_0 ⟨fun _ => ⟨_, _, c151, bI_if (fun h1 => ?_) (fun h1 => ⟨_, _, c151, bI_if (fun h2 => ?_) (fun h2 => ⟨hi, fun _ => ⟨hi, ?_⟩, fun z => absurd (hcap.mp z) (by omega)⟩)⟩)⟩, fun z => absurd z hx1⟩)⟩
  · rcases hb with hb | hb
    · rw [h1, h2] at hb
      cases hb
    · exact absurd (hcap.mpr hb) z
  · rw [h1] at hb
    cases hb
  · rw [h1, h2] at hb
    cases hb
  · have e1 : 617 + 2 * M.1 101 0 (ix 239) = iN (617 + 2 * n) := by rw [hx, h]; simp only [iN_lit, iN_mul, iN_add]
    rw [e1, ix_of (by omega)]
    refine ⟨inb_of (by omega) (by decide), ?_⟩
    rintro M3 rfl
    have g1 : (st M 101 0 (617 + 2 * n) x).1 101 0 239 = iN n := by rw [st_ne3 (by omega)]; exact h
    have e2 : 617 + 2 * (st M 101 0 (617 + 2 * n) x).1 101 0 (ix 239) + 1 = iN (617 + 2 * n + 1) := by rw [hx, g1]; simp only [iN_lit, iN_mul, iN_add]
    rw [e2, ix_of (by omega)]
    refine ⟨hi, inb_of (by omega) (by decide), ?_⟩
    rintro M4 rfl
    have g2 : (st (st M 101 0 (617 + 2 * n) x) 101 0 (617 + 2 * n + 1) y).1 101 0 239 = iN n := by rw [st_ne3 (by omega)]; exact g1
    rw [hx, g2, iN_step]
    refine ⟨hi, hi, ?_⟩
    rintro M5 rfl
    exact ⟨hi, by rw [st_at], rfl⟩
/-- offer, both -/
theorem op135 {X : Cx} {d : Nat} {M : Mem} {n : Nat} {x y : Int32} (h : ToldR M 89 0 (M.1 101 0) 239 617 2 8 (fun x y => inR x 0 3 && inR y 0 99) n) : ∃ (r : Int32) (M1 M2 : Mem), CC X (d + 2) 135 [vR 2 0, vI x, vI y] M (some (vI r)) M1 ∧ CC X (d + 2) 259 [vR 100 0, vI x, vI y] M1 (some (vI r)) M2 ∧ (∃ n2, ToldR M2 89 0 (M2.1 101 0) 239 617 2 8 (fun x y => inR x 0 3 && inR y 0 99) n2) ∧ Keep (fun c a => (c = 89 ∨ c = 90 ∨ c = 91) ∧ a = 0) (fun k => k = 239 ∨ (617 ≤ k ∧ k < 633)) M M2 := by
  have hK := c135 (X := X) (d := d) (x := x) (y := y) h.2.1 h.1
  by_cases hx : x = -1
  · have hm : (st M 89 0 0 0).1 101 0 239 = iN n := by rw [st_ne3 (fun z => absurd z.1 (by decide))]; exact h.2.2.1
    refine ⟨_, _, _, hK.1 hx, (c259 hm h.1).1 hx, ⟨0, ToldR.clear (by rw [st_ne3 (fun z => absurd z.1 (by decide)), st_at]) (by rw [w_st, upd_at])⟩, kp_trans (kp_st (by simp) (by decide)) (kp_w (by simp))⟩
  · by_cases hb : (inR x 0 3 && inR y 0 99) = true
    · by_cases hlt : n < 8
      · have hm : (st (st (st M 90 0 n x) 91 0 n y) 89 0 0 (iN (n + 1))).1 101 0 239 = iN n := by
          rw [st_ne3 (fun z => absurd z.1 (by decide)), st_ne3 (fun z => absurd z.1 (by decide)), st_ne3 (fun z => absurd z.1 (by decide))]; exact h.2.2.1
        refine ⟨_, _, _, hK.2.2 hx hb hlt, (c259 hm h.1).2.2 hx hb hlt, ⟨n + 1, ToldR.push h hlt (by decide) hb (x := x) (y := y) ?_ ?_ ?_ ?_ ?_ ?_ ?_⟩, kp_trans (kp_trans (kp_trans (kp_st (c := 90) (by simp) (by decide)) (kp_st (c := 91) (by simp) (by decide))) (kp_st (c := 89) (by simp) (by decide))) (kp_trans (kp_trans (kp_w (by omega)) (kp_w (by omega))) (kp_w (by omega)))⟩
        · rw [st_ne3 (fun z => absurd z.1 (by decide))]; rw [st_ne3 (fun z => absurd z.1 (by decide))]; rw [st_ne3 (fun z => absurd z.1 (by decide))]; rw [st_at]
        · rw [st_ne (fun z => absurd z.1 (by decide))]; rw [st_ne (fun z => absurd z.1 (by decide))]; rw [st_ne (fun z => absurd z.1 (by decide))]; rw [st_ne (fun z => absurd z.1 (by decide)), st_ne (fun z => absurd z.1 (by decide)), st_eq]
        · rw [st_ne (fun z => absurd z.1 (by decide))]; rw [st_ne (fun z => absurd z.1 (by decide))]; rw [st_ne (fun z => absurd z.1 (by decide))]; rw [st_ne (fun z => absurd z.1 (by decide)), st_eq, st_ne (fun z => absurd z.1 (by decide))]
        · rw [w_st, upd_at]
        · rw [w_st, upd_ne (by omega), w_st, upd_ne (by omega), w_st, upd_at]
        · intro _; rw [w_st, upd_ne (by omega), w_st, upd_at]
        · intro k h3 h4; rw [w_st, upd_ne (by omega), w_st, upd_ne (by omega), w_st, upd_ne (by omega)]; rw [st_ne (fun z => absurd z.1 (by decide)), st_ne (fun z => absurd z.1 (by decide)), st_ne (fun z => absurd z.1 (by decide))]
      · have hc : n = 8 := by have := h.1; omega
        exact ⟨_, _, _, hK.2.1 hx (Or.inr hc), (c259 h.2.2.1 h.1).2.1 hx (Or.inr hc), ⟨n, h⟩, kp_refl⟩
    · have hb : (inR x 0 3 && inR y 0 99) = false := by simpa using hb
      exact ⟨_, _, _, hK.2.1 hx (Or.inl hb), (c259 h.2.2.1 h.1).2.1 hx (Or.inl hb), ⟨n, h⟩, kp_refl⟩
/-- worn, the class -/
theorem c140 {X : Cx} {d : Nat} {M : Mem} {n : Nat} {x : Int32} (h : M.1 92 0 0 = iN n) (hn : n ≤ 12) :
    (x = -1 → CC X (d + 2) 140 [vR 2 0, vI x] M (some (vI 0)) (st M 92 0 0 0)) ∧ (¬ x = -1 → ((inR x 0 99) = false ∨ n = 12) → CC X (d + 2) 140 [vR 2 0, vI x] M (some (vI (-1))) M) ∧
    (¬ x = -1 → (inR x 0 99) = true → n < 12 → CC X (d + 2) 140 [vR 2 0, vI x] M (some (vI (iN (n + 1)))) (st (st (st M 93 0 n x) 94 0 n 0) 92 0 0 (iN (n + 1)))) := by
  refine ⟨fun hx => e140 (w140_0 ⟨fun h1 => absurd hx h1, fun _ => ⟨_, _, clr92, rfl, rfl⟩⟩), fun hx hb => e140 (w140_0 ⟨fun _ => ⟨_, _, c146, bI_if (fun _ => ⟨rfl, rfl⟩) (fun h1 => ?_)⟩, fun z => absurd z hx⟩), fun hx hb hlt => e140 (w140_0 ⟨fun _ => ⟨_, _, c146, bI_if (fun h1 => ?_) (fun h1 => ⟨_, _, add92 h hlt, rfl, rfl⟩)⟩, fun z => absurd z hx⟩)⟩
  · rcases hb with hb | hb
    · rw [h1] at hb
      cases hb
    · subst hb
      exact ⟨_, _, full92 h, rfl, rfl⟩
  · rw [h1] at hb
    cases hb
/-- worn, the reference -/
theorem c268 {X : Cx} {d : Nat} {M : Mem} {n : Nat} {x : Int32} (h : M.1 101 0 240 = iN n) (hn : n ≤ 12) :
    (x = -1 → CC X (d + 2) 268 [vR 100 0, vI x] M (some (vI 0)) (st M 101 0 240 0)) ∧ (¬ x = -1 → ((inR x 0 99) = false ∨ n = 12) → CC X (d + 2) 268 [vR 100 0, vI x] M (some (vI (-1))) M) ∧
    (¬ x = -1 → (inR x 0 99) = true → n < 12 → CC X (d + 2) 268 [vR 100 0, vI x] M (some (vI (iN (n + 1)))) (st (st M 101 0 (633 + n) x) 101 0 240 (iN (n + 1)))) := by
  have hi : inb 240 2129 := inb_l (by decide) (by decide)
  have hx : ix 240 = 240 := ix_l (by decide)
  have hcap : M.1 101 0 (ix 240) = 12 ↔ n = 12 := by rw [hx, h]; exact iN_inj (b := 12) (by omega) (by decide)
  refine ⟨fun hx1 => e268 (w268_0 ⟨fun h1 => absurd hx1 h1, fun _ => ⟨hi, fun M1 hM => ⟨rfl, by rw [hM, hx]⟩⟩⟩), fun hx1 hb => e268 (w268_0 ⟨fun _ => ⟨_, _, c151, bI_if (fun _ => ⟨rfl, rfl⟩) (fun h1 => ⟨hi, fun z => ?_, fun _ => ⟨rfl, rfl⟩⟩)⟩, fun z => absurd z hx1⟩), fun hx1 hb hlt => e268 (w268_0 ⟨fun _ => ⟨_, _, c151, bI_if (fun h1 => ?_) (fun h1 => ⟨hi, fun _ => ⟨hi, ?_⟩, fun z => absurd (hcap.mp z) (by omega)⟩)⟩, fun z => absurd z hx1⟩)⟩
  · rcases hb with hb | hb
    · rw [h1] at hb
      cases hb
    · exact absurd (hcap.mpr hb) z
  · rw [h1] at hb
    cases hb
  · have e1 : 633 + M.1 101 0 (ix 240) = iN (633 + n) := by rw [hx, h]; simp only [iN_lit, iN_add]
    rw [e1, ix_of (by omega)]
    refine ⟨inb_of (by omega) (by decide), ?_⟩
    rintro M3 rfl
    have g2 : (st M 101 0 (633 + n) x).1 101 0 240 = iN n := by rw [st_ne3 (by omega)]; exact h
    rw [hx, g2, iN_step]
    refine ⟨hi, hi, ?_⟩
    rintro M5 rfl
    exact ⟨hi, by rw [st_at], rfl⟩
/-- worn, both -/
theorem op140 {X : Cx} {d : Nat} {M : Mem} {n : Nat} {x : Int32} (h : ToldR M 92 0 (M.1 101 0) 240 633 1 12 (fun x _ => inR x 0 99) n) : ∃ (r : Int32) (M1 M2 : Mem), CC X (d + 2) 140 [vR 2 0, vI x] M (some (vI r)) M1 ∧ CC X (d + 2) 268 [vR 100 0, vI x] M1 (some (vI r)) M2 ∧ (∃ n2, ToldR M2 92 0 (M2.1 101 0) 240 633 1 12 (fun x _ => inR x 0 99) n2) ∧ Keep (fun c a => (c = 92 ∨ c = 93 ∨ c = 94) ∧ a = 0) (fun k => k = 240 ∨ (633 ≤ k ∧ k < 645)) M M2 := by
  have hK := c140 (X := X) (d := d) (x := x) h.2.1 h.1
  by_cases hx : x = -1
  · have hm : (st M 92 0 0 0).1 101 0 240 = iN n := by rw [st_ne3 (fun z => absurd z.1 (by decide))]; exact h.2.2.1
    refine ⟨_, _, _, hK.1 hx, (c268 hm h.1).1 hx, ⟨0, ToldR.clear (by rw [st_ne3 (fun z => absurd z.1 (by decide)), st_at]) (by rw [w_st, upd_at])⟩, kp_trans (kp_st (by simp) (by decide)) (kp_w (by simp))⟩
  · by_cases hb : (inR x 0 99) = true
    · by_cases hlt : n < 12
      · have hm : (st (st (st M 93 0 n x) 94 0 n 0) 92 0 0 (iN (n + 1))).1 101 0 240 = iN n := by
          rw [st_ne3 (fun z => absurd z.1 (by decide)), st_ne3 (fun z => absurd z.1 (by decide)), st_ne3 (fun z => absurd z.1 (by decide))]; exact h.2.2.1
        refine ⟨_, _, _, hK.2.2 hx hb hlt, (c268 hm h.1).2.2 hx hb hlt, ⟨n + 1, ToldR.push h hlt (by decide) hb (x := x) (y := 0) ?_ ?_ ?_ ?_ ?_ ?_ ?_⟩, kp_trans (kp_trans (kp_trans (kp_st (c := 93) (by simp) (by decide)) (kp_st (c := 94) (by simp) (by decide))) (kp_st (c := 92) (by simp) (by decide))) (kp_trans (kp_w (by omega)) (kp_w (by omega)))⟩
        · rw [st_ne3 (fun z => absurd z.1 (by decide))]; rw [st_ne3 (fun z => absurd z.1 (by decide))]; rw [st_at]
        · rw [st_ne (fun z => absurd z.1 (by decide))]; rw [st_ne (fun z => absurd z.1 (by decide))]; rw [st_ne (fun z => absurd z.1 (by decide)), st_ne (fun z => absurd z.1 (by decide)), st_eq]
        · rw [st_ne (fun z => absurd z.1 (by decide))]; rw [st_ne (fun z => absurd z.1 (by decide))]; rw [st_ne (fun z => absurd z.1 (by decide)), st_eq, st_ne (fun z => absurd z.1 (by decide))]
        · rw [w_st, upd_at]
        · rw [show 633 + 1 * n = 633 + n by omega, w_st, upd_ne (by omega), w_st, upd_at]
        · intro z; omega
        · intro k h3 h4; rw [w_st, upd_ne (by omega), w_st, upd_ne (by omega)]; rw [st_ne (fun z => absurd z.1 (by decide)), st_ne (fun z => absurd z.1 (by decide)), st_ne (fun z => absurd z.1 (by decide))]
      · have hc : n = 12 := by have := h.1; omega
        exact ⟨_, _, _, hK.2.1 hx (Or.inr hc), (c268 h.2.2.1 h.1).2.1 hx (Or.inr hc), ⟨n, h⟩, kp_refl⟩
    · have hb : (inR x 0 99) = false := by simpa using hb
      exact ⟨_, _, _, hK.2.1 hx (Or.inl hb), (c268 h.2.2.1 h.1).2.1 hx (Or.inl hb), ⟨n, h⟩, kp_refl⟩
