/-! the reference puts what it read -/
theorem c198 {X : Cx} {d : Nat} {M : Mem} {h base cnt q : Nat} (hh : h < base) (hb : base + cnt ≤ 2129) (hc : cnt ≤ 144) (h15 : M.1 100 0 15 = iN q) : ∃ M', CC X (d + 1) 198 [vR 100 0, vI (iN h), vI (iN base), vI (iN cnt)] M (some (vI (iN q))) M' ∧ M'.1 101 0 h = iN q ∧ (∀ x, x < cnt → M'.1 101 0 (base + x) = M.1 107 0 x) ∧ K3 (fun c a j => c = 101 ∧ a = 0 ∧ (j = h ∨ (base ≤ j ∧ j < base + cnt))) M M' := by
  obtain ⟨M2, ⟨i1, i2⟩, hV⟩ := for_fwd (n := cnt) (M := st M 101 0 h (iN q))
    (I := fun t Mt => (∀ x, x < t → Mt.1 101 0 (base + x) = M.1 107 0 x) ∧ K3 (fun c a j => c = 101 ∧ a = 0 ∧ (base ≤ j ∧ j < base + cnt)) (st M 101 0 h (iN q)) Mt)
    (St := fun t Mt Q => V X (d + 1) 198 13 [some (vR 100 0), none, some (vI (iN base)), some (vI (iN cnt)), some (vI (iN t))] [] Mt Q)
    (by
      rintro t Mt ht ⟨g1, g2⟩
      have e107 : Mt.1 107 0 t = M.1 107 0 t := by rw [g2 107 0 t (by omega), st_ne3 (fun z => absurd z.1 (by decide))]
      refine ⟨st Mt 101 0 (base + t) (M.1 107 0 t), ⟨fun x hx => ?_, k3_trans g2 (k3_st (by omega))⟩, fun Q hQ => w198_13 ⟨fun z => absurd z ?_, fun _ => ?_⟩⟩
      · by_cases hxt : x = t
        · rw [hxt, st_at]
        · rw [st_ne3 (by omega)]
          exact g1 x (by omega)
      · rw [nle_ (a := cnt) (b := t) (by omega) (by omega) ht]
        exact id
      · rw [show iN base + iN t = iN (base + t) by simp only [iN_add], ix_of (show t < 2147483648 by omega), ix_of (show base + t < 2147483648 by omega), e107]
        refine ⟨inb_of (by omega) (by decide), inb_of (by omega) (by decide), fun M1 hM1 => ?_⟩
        subst hM1
        rw [iN_step]
        exact hQ)
    ⟨fun x hx => absurd hx (by omega), k3_refl⟩
  have v15 : M2.1 100 0 15 = iN q := by rw [i2 100 0 15 (by omega), st_ne3 (fun z => absurd z.1 (by decide))]; exact h15
  refine ⟨M2, e198 (w198_0 ?_), by rw [i2 101 0 h (by omega), st_at], i1, k3_trans (k3_st (by omega)) (k3_sub i2 (fun c a j z => by omega))⟩
  rw [ix_of (show h < 2147483648 by omega), h15]
  refine ⟨inb_of (by omega) (by decide), fun M1 hM1 => ?_⟩
  subst hM1
  refine hV _ (w198_13 ⟨fun _ => ⟨by rw [v15], rfl⟩, fun z => absurd ((iN_le (by omega) (by omega)).mpr (Nat.le_refl _)) z⟩)
theorem c197 {X : Cx} {d : Nat} {M : Mem} {q s : Nat} (hq : q ≤ 16) (hs : s ≤ 400) (h13 : M.1 100 0 13 = iN q) (h14 : M.1 100 0 14 = iN s) : ∃ M', CC X (d + 1) 197 [vR 100 0] M (some (vI (iN q))) M' ∧ M'.1 101 0 232 = iN q ∧ (∀ i, i < q → M'.1 101 0 (1245 + i) = M.1 105 0 (4 * i) ∧ M'.1 101 0 (1261 + i) = M.1 105 0 (4 * i + 1) ∧ M'.1 101 0 (1277 + i) = M.1 105 0 (4 * i + 2) ∧ M'.1 101 0 (1293 + i) = M.1 105 0 (4 * i + 3)) ∧ (∀ x, x < 2 * s → M'.1 101 0 (1309 + x) = M.1 106 0 x) ∧ K3 (fun c a j => c = 101 ∧ a = 0 ∧ (j = 232 ∨ (1245 ≤ j ∧ j < 2129))) M M' := by
  have x232 : ix 232 = 232 := ix_l (by decide)
  obtain ⟨M2, ⟨i1, i2⟩, hV⟩ := for_fwd (n := q) (M := st M 101 0 232 (iN q))
    (I := fun t Mt => (∀ i, i < t → Mt.1 101 0 (1245 + i) = M.1 105 0 (4 * i) ∧ Mt.1 101 0 (1261 + i) = M.1 105 0 (4 * i + 1) ∧ Mt.1 101 0 (1277 + i) = M.1 105 0 (4 * i + 2) ∧ Mt.1 101 0 (1293 + i) = M.1 105 0 (4 * i + 3)) ∧ K3 (fun c a j => c = 101 ∧ a = 0 ∧ (1245 ≤ j ∧ j < 1309)) (st M 101 0 232 (iN q)) Mt)
    (St := fun t Mt Q => V X (d + 1) 197 14 [some (vR 100 0), some (vI (iN t))] [] Mt Q)
    (by
      rintro t Mt ht ⟨g1, g2⟩
      have e105 : ∀ x, Mt.1 105 0 x = M.1 105 0 x := fun x => by rw [g2 105 0 x (by omega), st_ne3 (fun z => absurd z.1 (by decide))]
      have e13 : Mt.1 100 0 13 = iN q := by rw [g2 100 0 13 (by omega), st_ne3 (fun z => absurd z.1 (by decide))]; exact h13
      have n4 : 4 * iN t = iN (4 * t) := by simp only [iN_lit, iN_mul]
      have n41 : iN (4 * t) + 1 = iN (4 * t + 1) := by simp only [iN_lit, iN_add]
      have n42 : iN (4 * t) + 2 = iN (4 * t + 2) := by simp only [iN_lit, iN_add]
      have n43 : iN (4 * t) + 3 = iN (4 * t + 3) := by simp only [iN_lit, iN_add]
      have a1 : 1245 + iN t = iN (1245 + t) := by simp only [iN_lit, iN_add]
      have a2 : 1261 + iN t = iN (1261 + t) := by simp only [iN_lit, iN_add]
      have a3 : 1277 + iN t = iN (1277 + t) := by simp only [iN_lit, iN_add]
      have a4 : 1293 + iN t = iN (1293 + t) := by simp only [iN_lit, iN_add]
      refine ⟨st (st (st (st Mt 101 0 (1245 + t) (M.1 105 0 (4 * t))) 101 0 (1261 + t) (M.1 105 0 (4 * t + 1))) 101 0 (1277 + t) (M.1 105 0 (4 * t + 2))) 101 0 (1293 + t) (M.1 105 0 (4 * t + 3)), ⟨fun i hi => ?_, k3_trans g2 (k3_trans (k3_trans (k3_trans (k3_st (by omega)) (k3_st (by omega))) (k3_st (by omega))) (k3_st (by omega)))⟩, fun Q hQ => w197_14 ⟨fun z => absurd z ?_, fun _ => ?_⟩⟩
      · by_cases hit : i = t
        · subst hit
          exact ⟨by rw [st_ne3 (by omega), st_ne3 (by omega), st_ne3 (by omega), st_at], by rw [st_ne3 (by omega), st_ne3 (by omega), st_at], by rw [st_ne3 (by omega), st_at], st_at⟩
        · obtain ⟨o1, o2, o3, o4⟩ := g1 i (by omega)
          exact ⟨by rw [st_ne3 (by omega), st_ne3 (by omega), st_ne3 (by omega), st_ne3 (by omega)]; exact o1, by rw [st_ne3 (by omega), st_ne3 (by omega), st_ne3 (by omega), st_ne3 (by omega)]; exact o2, by rw [st_ne3 (by omega), st_ne3 (by omega), st_ne3 (by omega), st_ne3 (by omega)]; exact o3, by rw [st_ne3 (by omega), st_ne3 (by omega), st_ne3 (by omega), st_ne3 (by omega)]; exact o4⟩
      · rw [e13, nle_ (a := q) (b := t) (by omega) (by omega) ht]
        exact id
      · rw [n4, n41, n42, n43, a1, a2, a3, a4, ix_of (show 4 * t < 2147483648 by omega), ix_of (show 4 * t + 1 < 2147483648 by omega), ix_of (show 4 * t + 2 < 2147483648 by omega), ix_of (show 4 * t + 3 < 2147483648 by omega), ix_of (show 1245 + t < 2147483648 by omega), ix_of (show 1261 + t < 2147483648 by omega), ix_of (show 1277 + t < 2147483648 by omega), ix_of (show 1293 + t < 2147483648 by omega), e105]
        refine ⟨inb_of (by omega) (by decide), inb_of (by omega) (by decide), fun M1 h1 => ⟨inb_of (by omega) (by decide), inb_of (by omega) (by decide), fun M2 h2 => ⟨inb_of (by omega) (by decide), inb_of (by omega) (by decide), fun M3 h3 => ⟨inb_of (by omega) (by decide), inb_of (by omega) (by decide), fun M4 h4 => ?_⟩⟩⟩⟩
        subst h1
        rw [st_ne3 (fun z => absurd z.1 (by decide)), e105] at h2
        subst h2
        rw [st_ne3 (fun z => absurd z.1 (by decide)), st_ne3 (fun z => absurd z.1 (by decide)), e105] at h3
        subst h3
        rw [st_ne3 (fun z => absurd z.1 (by decide)), st_ne3 (fun z => absurd z.1 (by decide)), st_ne3 (fun z => absurd z.1 (by decide)), e105] at h4
        subst h4
        rw [iN_step]
        exact hQ)
    ⟨fun x hx => absurd hx (by omega), k3_refl⟩
  have v13 : M2.1 100 0 13 = iN q := by rw [i2 100 0 13 (by omega), st_ne3 (fun z => absurd z.1 (by decide))]; exact h13
  have v14 : M2.1 100 0 14 = iN s := by rw [i2 100 0 14 (by omega), st_ne3 (fun z => absurd z.1 (by decide))]; exact h14
  have e2s : 2 * iN s = iN (2 * s) := by simp only [iN_lit, iN_mul]
  obtain ⟨M3, ⟨j1, j2⟩, hU⟩ := for_fwd (n := 2 * s) (M := M2)
    (I := fun t Mt => (∀ x, x < t → Mt.1 101 0 (1309 + x) = M.1 106 0 x) ∧ K3 (fun c a j => c = 101 ∧ a = 0 ∧ (1309 ≤ j ∧ j < 2129)) M2 Mt)
    (St := fun t Mt Q => V X (d + 1) 197 108 [some (vR 100 0), some (vI (iN t))] [] Mt Q)
    (by
      rintro t Mt ht ⟨g1, g2⟩
      have e106 : Mt.1 106 0 t = M.1 106 0 t := by rw [g2 106 0 t (by omega), i2 106 0 t (by omega), st_ne3 (fun z => absurd z.1 (by decide))]
      have e14 : Mt.1 100 0 14 = iN s := by rw [g2 100 0 14 (by omega)]; exact v14
      refine ⟨st Mt 101 0 (1309 + t) (M.1 106 0 t), ⟨fun x hx => ?_, k3_trans g2 (k3_st (by omega))⟩, fun Q hQ => w197_108 ⟨fun z => absurd z ?_, fun _ => ?_⟩⟩
      · by_cases hxt : x = t
        · rw [hxt, st_at]
        · rw [st_ne3 (by omega)]
          exact g1 x (by omega)
      · rw [e14, e2s, nle_ (a := 2 * s) (b := t) (by omega) (by omega) ht]
        exact id
      · rw [show 1309 + iN t = iN (1309 + t) by simp only [iN_lit, iN_add], ix_of (show t < 2147483648 by omega), ix_of (show 1309 + t < 2147483648 by omega), e106]
        refine ⟨inb_of (by omega) (by decide), inb_of (by omega) (by decide), fun M1 hM1 => ?_⟩
        subst hM1
        rw [iN_step]
        exact hQ)
    ⟨fun x hx => absurd hx (by omega), k3_refl⟩
  have u13 : M3.1 100 0 13 = iN q := by rw [j2 100 0 13 (by omega)]; exact v13
  have u14 : M3.1 100 0 14 = iN s := by rw [j2 100 0 14 (by omega)]; exact v14
  refine ⟨M3, e197 (w197_0 ?_), by rw [j2 101 0 232 (by omega), i2 101 0 232 (by omega), st_at], fun i hi => ?_, j1, k3_trans (k3_st (by omega)) (k3_trans (k3_sub i2 (fun c a j z => by omega)) (k3_sub j2 (fun c a j z => by omega)))⟩
  · rw [x232, h13]
    refine ⟨inb_of (n := 232) (by decide) (by decide), fun M1 hM1 => ?_⟩
    subst hM1
    refine hV _ (w197_14 ⟨fun _ => hU _ (w197_108 ⟨fun _ => ⟨by rw [u13], rfl⟩, fun z => absurd ?_ z⟩), fun z => absurd ?_ z⟩)
    · rw [u14, e2s]
      exact (iN_le (by omega) (by omega)).mpr (Nat.le_refl _)
    · rw [v13]
      exact (iN_le (by omega) (by omega)).mpr (Nat.le_refl _)
  · rw [j2 101 0 _ (by omega), j2 101 0 _ (by omega), j2 101 0 _ (by omega), j2 101 0 _ (by omega)]
    exact i1 i hi
