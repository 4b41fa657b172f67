/-! the class's spread over the doors -/
def WyC (M : Mem) (a : Nat) (w : Nat → Nat → Nat) : Prop := ∀ i j, i < 8 → j < 8 → M.1 59 a (8 * i + j) = iN (w i j)
def NrC (M : Mem) (a k : Nat) (nr : Nat → Nat) : Prop := ∀ j, j < 8 → M.1 60 a j = iN (nr j) ∧ nr j ≤ 1000000 ∧ M.1 61 a j = (if Nat.testBit k j = true then 1 else 0)
theorem c22 {X : Cx} {d : Nat} {M : Mem} {a n k : Nat} {nr : Nat → Nat} (hn : n ≤ 8) (h : NrC M a k nr) : ∃ r : Int32, CC X (d + 1) 22 [vR 50 a, vI (iN n)] M (some (vI r)) M ∧ ((r = -1 ∧ ∀ v, v < n → Nat.testBit k v = false → nr v = 1000000) ∨ ∃ e, e < n ∧ r = iN e ∧ Nat.testBit k e = false ∧ nr e < 1000000 ∧ ∀ v, v < n → Nat.testBit k v = false → nr e ≤ nr v) := by
  have run : ∀ (t j : Nat) (r : Int32) (l : Nat), j + t = n → l ≤ 1000000 → ((r = -1 ∧ l = 1000000 ∧ ∀ v, v < j → Nat.testBit k v = false → nr v = 1000000) ∨ ∃ e, e < j ∧ r = iN e ∧ Nat.testBit k e = false ∧ nr e < 1000000 ∧ l = nr e ∧ ∀ v, v < j → Nat.testBit k v = false → nr e ≤ nr v) → ∃ r' : Int32, V X (d + 1) 22 8 [some (vR 50 a), some (vI (iN n)), some (vI r), some (vI (iN l)), some (vI (iN j))] [] M (fun x M' => x = some (vI r') ∧ M' = M) ∧ ((r' = -1 ∧ ∀ v, v < n → Nat.testBit k v = false → nr v = 1000000) ∨ ∃ e, e < n ∧ r' = iN e ∧ Nat.testBit k e = false ∧ nr e < 1000000 ∧ ∀ v, v < n → Nat.testBit k v = false → nr e ≤ nr v) := by
    intro t
    induction t with
    | zero =>
      intro j r l hj hl hI
      have : j = n := hj
      subst this
      refine ⟨r, w22_8 ⟨fun _ => ⟨rfl, rfl⟩, fun z => absurd ((iN_le (by omega) (by omega)).mpr (Nat.le_refl _)) z⟩, ?_⟩
      rcases hI with ⟨h1, -, h2⟩ | ⟨e, h1, h2, h3, h4, -, h5⟩
      · exact Or.inl ⟨h1, h2⟩
      · exact Or.inr ⟨e, h1, h2, h3, h4, h5⟩
    | succ t ih =>
      intro j r l hj hl hI
      obtain ⟨g1, g2, g3⟩ := h j (by omega)
      have ent : ∀ {Q : Option Vl → Mem → Prop}, ((¬ (if Nat.testBit k j = true then (1 : Int32) else 0) = 0 → V X (d + 1) 22 8 [some (vR 50 a), some (vI (iN n)), some (vI r), some (vI (iN l)), some (vI (iN (j + 1)))] [] M Q) ∧ ((if Nat.testBit k j = true then (1 : Int32) else 0) = 0 → inb (iN j) 8 ∧ (iN l ≤ iN (nr j) → V X (d + 1) 22 8 [some (vR 50 a), some (vI (iN n)), some (vI r), some (vI (iN l)), some (vI (iN (j + 1)))] [] M Q) ∧ (¬ iN l ≤ iN (nr j) → inb (iN j) 8 ∧ V X (d + 1) 22 8 [some (vR 50 a), some (vI (iN n)), some (vI (iN j)), some (vI (iN (nr j))), some (vI (iN (j + 1)))] [] M Q))) → V X (d + 1) 22 8 [some (vR 50 a), some (vI (iN n)), some (vI r), some (vI (iN l)), some (vI (iN j))] [] M Q := by
        intro Q hQ
        refine w22_8 ⟨fun z => absurd ((iN_le (by omega) (by omega)).mp z) (by omega), fun _ => ⟨fun z => absurd ((iN_le (a := 8) (by decide) (by omega)).mp z) (by omega), fun _ => ⟨inb_of (by omega) (by decide), ?_⟩⟩⟩
        rw [ix_of (by omega), g1, g3, iN_step]
        exact hQ
      by_cases hb : Nat.testBit k j = true
      · obtain ⟨r', a1, a2⟩ := ih (j + 1) r l (by omega) hl (by
          rcases hI with ⟨h1, h0, h2⟩ | ⟨e, h1, h2, h3, h4, h6, h5⟩
          · refine Or.inl ⟨h1, h0, fun v hv hkv => ?_⟩
            by_cases hvj : v = j
            · rw [hvj, hb] at hkv; cases hkv
            · exact h2 v (by omega) hkv
          · refine Or.inr ⟨e, by omega, h2, h3, h4, h6, fun v hv hkv => ?_⟩
            by_cases hvj : v = j
            · rw [hvj, hb] at hkv; cases hkv
            · exact h5 v (by omega) hkv)
        refine ⟨r', ent ⟨fun _ => a1, fun z => ?_⟩, a2⟩
        rw [if_pos hb] at z
        exact absurd z (by decide)
      · have hb0 : Nat.testBit k j = false := by simpa using hb
        by_cases hle : l ≤ nr j
        · obtain ⟨r', a1, a2⟩ := ih (j + 1) r l (by omega) hl (by
            rcases hI with ⟨h1, h0, h2⟩ | ⟨e, h1, h2, h3, h4, h6, h5⟩
            · refine Or.inl ⟨h1, h0, fun v hv hkv => ?_⟩
              by_cases hvj : v = j
              · subst hvj; omega
              · exact h2 v (by omega) hkv
            · refine Or.inr ⟨e, by omega, h2, h3, h4, h6, fun v hv hkv => ?_⟩
              by_cases hvj : v = j
              · subst hvj; omega
              · exact h5 v (by omega) hkv)
          refine ⟨r', ent ⟨fun z => absurd (if_neg hb) z, fun _ => ⟨inb_of (by omega) (by decide), fun _ => a1, fun z => absurd ((iN_le (by omega) (by omega)).mpr hle) z⟩⟩, a2⟩
        · obtain ⟨r', a1, a2⟩ := ih (j + 1) (iN j) (nr j) (by omega) g2 (by
            refine Or.inr ⟨j, by omega, rfl, hb0, by omega, rfl, fun v hv hkv => ?_⟩
            by_cases hvj : v = j
            · rw [hvj]; exact Nat.le_refl _
            · rcases hI with ⟨h1, h0, h2⟩ | ⟨e, h1, h2, h3, h4, h6, h5⟩
              · have := h2 v (by omega) hkv
                omega
              · have := h5 v (by omega) hkv
                omega)
          refine ⟨r', ent ⟨fun z => absurd (if_neg hb) z, fun _ => ⟨inb_of (by omega) (by decide), fun z => absurd ((iN_le (by omega) (by omega)).mp z) hle, fun _ => ⟨inb_of (by omega) (by decide), a1⟩⟩⟩, a2⟩
  obtain ⟨r', a1, a2⟩ := run n 0 (-1) 1000000 (by omega) (Nat.le_refl _) (Or.inl ⟨rfl, rfl, fun v hv => absurd hv (by omega)⟩)
  exact ⟨r', e22 (w22_0 a1), a2⟩
/-- what a door brings near: base + way -/
def rlx (w : Nat → Nat → Nat) (k e base : Nat) (nr : Nat → Nat) (m v : Nat) : Nat := if v < m ∧ Nat.testBit k v = false ∧ 0 < w e v then min (nr v) (base + w e v) else nr v
theorem c21_in {X : Cx} {d a n k e base : Nat} {w : Nat → Nat → Nat} {nr : Nat → Nat} {x3 x4 x5 : Int32} (hn : n ≤ 8) (he : e < n) (hke : Nat.testBit k e = true) (hw : ∀ i j, w i j ≤ 99) (hb : base ≤ 1000000) (hx : (x3 = 0 ∧ base = 0) ∨ (¬ x3 = 0 ∧ base = nr e)) :
    ∀ (t j : Nat) (M : Mem), j + t = n → WyC M a w → NrC M a k (rlx w k e base nr j) → ∃ M' : Mem, NrC M' a k (rlx w k e base nr n) ∧ K3 (fun c b _ => c = 60 ∧ b = a) M M' ∧ ∀ Q : Option Vl → Mem → Prop, V X (d + 1) 21 49 [some (vR 50 a), none, some (vI (iN n)), some (vI x3), some (vI x4), some (vI (x5 + 1)), none, none, none] [] M' Q → V X (d + 1) 21 93 [some (vR 50 a), none, some (vI (iN n)), some (vI x3), some (vI x4), some (vI x5), some (vI (iN e)), some (vI (iN j)), none] [] M Q
  | 0, j, M, hj, hW, hN => by
    have : j = n := hj
    subst this
    exact ⟨M, hN, k3_refl, fun Q hQ => w21_93 ⟨fun _ => hQ, fun z => absurd ((iN_le (by omega) (by omega)).mpr (Nat.le_refl _)) z⟩⟩
  | t + 1, j, M, hj, hW, hN => by
    obtain ⟨g1, g2, g3⟩ := hN j (by omega)
    have ej : rlx w k e base nr j j = nr j := if_neg (fun z => absurd z.1 (by omega))
    rw [ej] at g1 g2
    have e8 : iN e * 8 + iN j = iN (8 * e + j) := by
      rw [iN_lit 8, iN_mul, iN_add, Nat.mul_comm]
    have ww := hw e j
    have ge : M.1 60 a e = iN (nr e) := by
      have := (hN e (by omega)).1
      rwa [show rlx w k e base nr j e = nr e from if_neg (fun z => by rw [hke] at z; exact absurd z.2.1 (by decide))] at this
    have other : ∀ v, v ≠ j → rlx w k e base nr (j + 1) v = rlx w k e base nr j v := fun v hv => by
      unfold rlx
      by_cases hc : v < j ∧ Nat.testBit k v = false ∧ 0 < w e v
      · rw [if_pos hc, if_pos ⟨by omega, hc.2⟩]
      · rw [if_neg hc, if_neg (fun z => hc ⟨by omega, z.2⟩)]
    have ent : ∀ {Q : Option Vl → Mem → Prop}, ((iN (w e j) ≤ 0 → V X (d + 1) 21 93 [some (vR 50 a), none, some (vI (iN n)), some (vI x3), some (vI x4), some (vI x5), some (vI (iN e)), some (vI (iN (j + 1))), none] [] M Q) ∧ (¬ iN (w e j) ≤ 0 → inb (iN j) 8 ∧ (¬ (if Nat.testBit k j = true then (1 : Int32) else 0) = 0 → V X (d + 1) 21 93 [some (vR 50 a), none, some (vI (iN n)), some (vI x3), some (vI x4), some (vI x5), some (vI (iN e)), some (vI (iN (j + 1))), none] [] M Q) ∧ ((if Nat.testBit k j = true then (1 : Int32) else 0) = 0 → V X (d + 1) 21 93 [some (vR 50 a), none, some (vI (iN n)), some (vI x3), some (vI x4), some (vI x5), some (vI (iN e)), some (vI (iN (j + 1))), none] [] (st M 60 a j (iN (min (nr j) (base + w e j)))) Q))) → V X (d + 1) 21 93 [some (vR 50 a), none, some (vI (iN n)), some (vI x3), some (vI x4), some (vI x5), some (vI (iN e)), some (vI (iN j)), none] [] M Q := by
      intro Q hQ
      refine w21_93 ⟨fun z => absurd ((iN_le (by omega) (by omega)).mp z) (by omega), fun _ => ⟨fun z => absurd ((iN_le (a := 8) (by decide) (by omega)).mp z) (by omega), fun _ => ?_⟩⟩
      rw [e8, ix_of (show 8 * e + j < 2147483648 by omega), hW e j (by omega) (by omega), ix_of (show j < 2147483648 by omega), ix_of (show e < 2147483648 by omega), g1, g3, ge, iN_step]
      have ij : inb (iN j) 8 := inb_of (by omega) (by decide)
      refine ⟨inb_of (by omega) (by decide), hQ.1, fun z => ⟨ij, (hQ.2 z).2.1, fun z2 => ⟨ij, fun h0 => ⟨ij, ?_⟩, fun h0 => ⟨inb_of (by omega) (by decide), ij, ?_⟩⟩⟩⟩
      · rcases hx with ⟨-, hb0⟩ | ⟨h1, -⟩
        · have := (hQ.2 z).2.2 z2
          rw [hb0, Nat.zero_add] at this
          rw [min_c, lsr_n (by omega) (by omega)]
          rintro M1 rfl
          exact this
        · exact absurd h0 h1
      · rcases hx with ⟨h1, -⟩ | ⟨-, hb0⟩
        · exact absurd h1 h0
        · have := (hQ.2 z).2.2 z2
          rw [hb0] at this hb
          rw [iN_add, min_c, lsr_n (by omega) (by omega)]
          rintro M1 rfl
          exact this
    by_cases hc : Nat.testBit k j = false ∧ 0 < w e j
    · have ej1 : rlx w k e base nr (j + 1) j = min (nr j) (base + w e j) := if_pos ⟨by omega, hc.1, hc.2⟩
      obtain ⟨M', q1, q2, q3⟩ := c21_in (X := X) (d := d) (a := a) (x4 := x4) (x5 := x5) hn he hke hw hb hx t (j + 1) (st M 60 a j (iN (min (nr j) (base + w e j)))) (by omega) (fun i q hi hq => by rw [st_ne3 (fun z => absurd z.1 (by decide))]; exact hW i q hi hq) (fun v hv => by
        by_cases hvj : v = j
        · subst hvj
          rw [ej1, st_at, st_ne3 (fun z => absurd z.1 (by decide))]
          exact ⟨rfl, by omega, g3⟩
        · rw [other v hvj, st_ne3 (fun z => hvj z.2.2), st_ne3 (fun z => absurd z.1 (by decide))]
          exact hN v hv)
      refine ⟨M', q1, k3_trans (k3_st ⟨rfl, rfl⟩) q2, fun Q hQ => ent ⟨fun z => absurd ((iN_le (b := 0) (by omega) (by decide)).mp z) (by omega), fun _ => ⟨inb_of (by omega) (by decide), fun z => absurd (if_neg (by rw [hc.1]; decide)) z, fun _ => q3 Q hQ⟩⟩⟩
    · have ej1 : rlx w k e base nr (j + 1) j = nr j := if_neg (fun z => hc z.2)
      obtain ⟨M', q1, q2, q3⟩ := c21_in (X := X) (d := d) (a := a) (x4 := x4) (x5 := x5) hn he hke hw hb hx t (j + 1) M (by omega) hW (fun v hv => by
        by_cases hvj : v = j
        · subst hvj
          rw [ej1]
          exact ⟨g1, g2, g3⟩
        · rw [other v hvj]
          exact hN v hv)
      refine ⟨M', q1, q2, fun Q hQ => ent ⟨fun _ => q3 Q hQ, fun z => ⟨inb_of (by omega) (by decide), fun _ => q3 Q hQ, fun z2 => ?_⟩⟩⟩
      exfalso
      have hw0 : 0 < w e j := by
        by_cases h0 : 0 < w e j
        · exact h0
        · exact absurd ((iN_le (b := 0) (by omega) (by decide)).mpr (by omega)) z
      cases hbb : Nat.testBit k j with
      | true => rw [if_pos hbb] at z2; exact absurd z2 (by decide)
      | false => exact hc ⟨hbb, hw0⟩
theorem rlx_0 {w : Nat → Nat → Nat} {k e base : Nat} {nr : Nat → Nat} : rlx w k e base nr 0 = nr := by
  funext v
  exact if_neg (fun z => absurd z.1 (by omega))
/-- one door is reached -/
theorem c21_step {X : Cx} {d a n k e : Nat} {w : Nat → Nat → Nat} {nr : Nat → Nat} {M : Mem} {x3 x4 x5 : Int32} (hn : n ≤ 8) (hk : k < 256) (he : e < n) (hw : ∀ i j, w i j ≤ 99) (hW : WyC M a w) (hN : NrC M a k nr) (hlt : nr e < 1000000) (h5 : ¬ iN n ≤ x5) (h22 : CC X (d + 1) 22 [vR 50 a, vI (iN n)] M (some (vI (iN e))) M) :
    ∃ M' : Mem, NrC M' a (k ||| 2 ^ e) (rlx w (k ||| 2 ^ e) e (if x3 = 0 then 0 else nr e) nr n) ∧ K3 (fun c b _ => (c = 60 ∨ c = 61) ∧ b = a) M M' ∧ ∀ Q : Option Vl → Mem → Prop, V X (d + 2) 21 49 [some (vR 50 a), none, some (vI (iN n)), some (vI x3), some (vI (x4 + iN (nr e))), some (vI (x5 + 1)), none, none, none] [] M' Q → V X (d + 2) 21 49 [some (vR 50 a), none, some (vI (iN n)), some (vI x3), some (vI x4), some (vI x5), none, none, none] [] M Q := by
  have hN1 : NrC (st M 61 a e 1) a (k ||| 2 ^ e) nr := fun j hj => by
    obtain ⟨g1, g2, g3⟩ := hN j hj
    refine ⟨by rw [st_ne3 (fun z => absurd z.1 (by decide))]; exact g1, g2, ?_⟩
    by_cases hje : j = e
    · subst hje
      rw [st_at, if_pos (tb_or.mpr (Or.inr rfl))]
    · rw [st_ne3 (fun z => hje z.2.2), g3]
      by_cases hb : Nat.testBit k j = true
      · rw [if_pos hb, if_pos (tb_or.mpr (Or.inl hb))]
      · rw [if_neg hb, if_neg (fun z => (tb_or.mp z).elim hb hje)]
  obtain ⟨M', q1, q2, q3⟩ := c21_in (X := X) (d := d + 1) (a := a) (k := k ||| 2 ^ e) (e := e) (base := if x3 = 0 then 0 else nr e) (nr := nr) (x3 := x3) (x4 := x4 + iN (nr e)) (x5 := x5) hn he (tb_or.mpr (Or.inr rfl)) hw (by split <;> omega) (by
    by_cases h0 : x3 = 0
    · exact Or.inl ⟨h0, if_pos h0⟩
    · exact Or.inr ⟨h0, if_neg h0⟩) n 0 (st M 61 a e 1) (by omega) (fun i q hi hq => by rw [st_ne3 (fun z => absurd z.1 (by decide))]; exact hW i q hi hq) (by rw [rlx_0]; exact hN1)
  refine ⟨M', q1, k3_trans (k3_st ⟨Or.inr rfl, rfl⟩) (k3_sub q2 (fun c b j z => ⟨Or.inl z.1, z.2⟩)), fun Q hQ => w21_49 ⟨fun z => absurd z h5, fun _ => ⟨_, _, h22, fun _ => ⟨inb_of (by omega) (by decide), isB1, ?_⟩, fun z => ?_⟩⟩⟩
  · rw [ix_of (by omega)]
    rintro M2 rfl
    refine ⟨inb_of (by omega) (by decide), ?_⟩
    rw [st_ne3 (fun z => absurd z.1 (by decide)), (hN e (by omega)).1]
    exact q3 Q hQ
  · exfalso
    have := iN_nn (n := e) (by omega)
    rw [z] at this
    exact absurd this (by decide)
/-- the start: nothing is reached -/
theorem c21_start {X : Cx} {d a f : Nat} {M : Mem} {x2 x3 : Int32} (hf : f < 8) : ∃ M' : Mem, NrC M' a 0 (fun v => if v = f then 0 else 1000000) ∧ K3 (fun c b _ => (c = 60 ∨ c = 61) ∧ b = a) M M' ∧ ∀ Q : Option Vl → Mem → Prop, V X (d + 1) 21 49 [some (vR 50 a), none, some (vI x2), some (vI x3), some (vI 0), some (vI 0), none, none, none] [] M' Q → V X (d + 1) 21 3 [some (vR 50 a), some (vI (iN f)), some (vI x2), some (vI x3), some (vI 0), none, none, none, none] [] M Q := by
  obtain ⟨M1, ⟨i1, i2⟩, hV⟩ := for_fwd (n := 8) (M := M)
    (I := fun t Mt => (∀ j, j < t → Mt.1 60 a j = iN (if j = f then 0 else 1000000) ∧ Mt.1 61 a j = 0) ∧ K3 (fun c b _ => (c = 60 ∨ c = 61) ∧ b = a) M Mt)
    (St := fun t Mt Q => V X (d + 1) 21 3 [some (vR 50 a), some (vI (iN f)), some (vI x2), some (vI x3), some (vI (iN t)), none, none, none, none] [] Mt Q)
    (by
      rintro t Mt ht ⟨g1, g2⟩
      refine ⟨st (st Mt 60 a t (iN (if t = f then 0 else 1000000))) 61 a t 0, ⟨fun j hj => ?_, k3_trans g2 (k3_trans (k3_st ⟨Or.inl rfl, rfl⟩) (k3_st ⟨Or.inr rfl, rfl⟩))⟩, fun Q hQ => w21_3 ?_⟩
      · by_cases hjt : j = t
        · subst hjt
          exact ⟨by rw [st_ne3 (fun z => absurd z.1 (by decide)), st_at], st_at⟩
        · rw [st_ne3 (fun z => absurd z.1 (by decide)), st_ne3 (fun z => hjt z.2.2), st_ne3 (fun z => hjt z.2.2), st_ne3 (fun z => absurd z.1 (by decide))]
          exact g1 j (by omega)
      · refine ⟨fun z => absurd ((iN_le (a := 8) (by decide) (by omega)).mp z) (by omega), fun _ => ⟨fun z => ⟨inb_of ht (by decide), ?_⟩, fun z => ⟨inb_of ht (by decide), ?_⟩⟩⟩
        · rw [ix_of (by omega)]
          rw [if_neg (fun h => z (by rw [h]))] at hQ
          rintro M1 rfl
          refine ⟨inb_of ht (by decide), isB0, ?_⟩
          rintro M2 rfl
          rw [iN_step]
          exact hQ
        · rw [ix_of (by omega)]
          rw [if_pos ((iN_inj (by omega) (by omega)).mp z)] at hQ
          rintro M1 rfl
          refine ⟨inb_of ht (by decide), isB0, ?_⟩
          rintro M2 rfl
          rw [iN_step]
          exact hQ)
    ⟨fun j hj => absurd hj (by omega), k3_refl⟩
  refine ⟨M1, fun j hj => ⟨(i1 j hj).1, by show (if j = f then 0 else 1000000) ≤ 1000000; split <;> omega, by rw [Nat.zero_testBit]; exact (i1 j hj).2⟩, i2, fun Q hQ => hV Q (w21_3 ⟨fun _ => hQ, fun z => absurd (by decide) z⟩)⟩
theorem WyC.k {M M2 : Mem} {a : Nat} {w : Nat → Nat → Nat} (h : WyC M a w) (k : K3 (fun c b _ => (c = 60 ∨ c = 61) ∧ b = a) M M2) : WyC M2 a w := fun i j hi hj => by rw [k 59 a _ (by omega)]; exact h i j hi hj
/-- Prim's way: the doors near, when those of k are reached -/
def NrP (n : Nat) (w : Nat → Nat → Nat) (k : Nat) (nr : Nat → Nat) : Prop := ∀ v, v < n → Nat.testBit k v = false → (nr v < 1000000 → ∃ u, Nat.testBit k u = true ∧ w u v = nr v ∧ 0 < nr v) ∧ ∀ u, Nat.testBit k u = true → 0 < w u v → nr v ≤ w u v
theorem c21_prim {X : Cx} {d a n : Nat} {w : Nat → Nat → Nat} (hn : n ≤ 8) (hw : ∀ i j, w i j ≤ 99) (hs : ∀ x y, x < n → y < n → w x y = w y x) : ∀ (t k s : Nat) (nr : Nat → Nat) (M : Mem), cnK k n + t = n → s ≤ 99 * cnK k n → PrI n w k s → NrP n w k nr → WyC M a w → NrC M a k nr → ∃ M' : Mem, K3 (fun c b _ => (c = 60 ∨ c = 61) ∧ b = a) M M' ∧ ∀ Q : Option Vl → Mem → Prop, Q (some (vI (prS n w))) M' → V X (d + 2) 21 49 [some (vR 50 a), none, some (vI (iN n)), some (vI 0), some (vI (iN s)), some (vI (iN (cnK k n))), none, none, none] [] M Q
  | 0, k, s, nr, M, ht, hs99, hP, hR, hW, hN => by
    refine ⟨M, k3_refl, fun Q hQ => w21_49 ⟨fun _ => ?_, fun z => absurd ((iN_le (by omega) (by omega)).mpr (by omega)) z⟩⟩
    rw [hP.done (by omega)] at hQ
    exact hQ
  | t + 1, k, s, nr, M, ht, hs99, hP, hR, hW, hN => by
    have hle := cnK_le (k := k) (n := n)
    obtain ⟨r, cr, hr⟩ := c22 (X := X) (d := d) (M := M) (a := a) (n := n) hn hN
    have h5 : ¬ iN n ≤ iN (cnK k n) := fun z => absurd ((iN_le (by omega) (by omega)).mp z) (by omega)
    rcases hr with ⟨rfl, hno⟩ | ⟨e, he, rfl, hke, hlt, hmin⟩
    · have hex : ∃ v, v < n ∧ Nat.testBit k v = false := by
        refine Classical.byContradiction fun hall => ?_
        have := cnK_all (k := k) (n := n) (fun j hj => by
          cases hb : Nat.testBit k j with
          | true => rfl
          | false => exact absurd ⟨j, hj, hb⟩ hall)
        omega
      obtain ⟨v, hv, hkv⟩ := hex
      have hst := hP.stuck (fun x y => hw x y) hv hkv (fun x y hx hy h1 h2 => by
        have h3 := hno y hy h2
        have h4 := (hR y hy h2).2 x h1
        have := hw x y
        by_cases h0 : 0 < w x y
        · have := h4 h0; omega
        · omega)
      refine ⟨M, k3_refl, fun Q hQ => w21_49 ⟨fun z => absurd z h5, fun _ => ⟨_, _, cr, fun z => absurd rfl z, fun _ => ?_⟩⟩⟩
      rw [hst] at hQ
      exact hQ
    · obtain ⟨u, hu1, hu2, hu3⟩ := (hR e he hke).1 hlt
      have wue : nr e ≤ 99 := by rw [← hu2]; exact hw u e
      have hP2 : PrI n w (k ||| 2 ^ e) (s + nr e) := by
        have := hP.step hs hn hu1 he hke (by omega) (hw u e) (fun x y hx hy h1 h2 h3 => by
          rw [hu2]
          have := hmin y hy h2
          have := (hR y hy h2).2 x h1 h3
          omega)
        rwa [hu2] at this
      obtain ⟨M1, q1, q2, q3⟩ := c21_step (X := X) (d := d) (a := a) (x3 := 0) (x4 := iN s) (x5 := iN (cnK k n)) hn hP.1 he hw hW hN hlt h5 cr
      rw [if_pos rfl] at q1
      have hcn := cnK_add hke he
      obtain ⟨M2, r1, r2⟩ := c21_prim (X := X) (d := d) (a := a) hn hw hs t (k ||| 2 ^ e) (s + nr e) (rlx w (k ||| 2 ^ e) e 0 nr n) M1 (by omega) (by omega) hP2 (fun v hv hkv => by
        have hkv0 : Nat.testBit k v = false := by
          cases hb : Nat.testBit k v with
          | false => rfl
          | true => rw [tb_or.mpr (Or.inl hb)] at hkv; cases hkv
        have hve : v ≠ e := fun z => by rw [z, tb_or.mpr (Or.inr rfl)] at hkv; cases hkv
        obtain ⟨b1, b2⟩ := hR v hv hkv0
        by_cases hev : 0 < w e v
        · have er : rlx w (k ||| 2 ^ e) e 0 nr n v = min (nr v) (0 + w e v) := if_pos ⟨hv, hkv, hev⟩
          rw [er, Nat.zero_add]
          refine ⟨fun hl => ?_, fun u hu h0 => ?_⟩
          · by_cases hc : nr v ≤ w e v
            · rw [Nat.min_eq_left hc] at hl ⊢
              obtain ⟨u, c1, c2, c3⟩ := b1 hl
              exact ⟨u, tb_or.mpr (Or.inl c1), c2, c3⟩
            · rw [Nat.min_eq_right (by omega)]
              exact ⟨e, tb_or.mpr (Or.inr rfl), rfl, hev⟩
          · rcases tb_or.mp hu with h1 | h1
            · have := b2 u h1 h0
              omega
            · subst h1
              omega
        · have er : rlx w (k ||| 2 ^ e) e 0 nr n v = nr v := if_neg (fun z => hev z.2.2)
          rw [er]
          refine ⟨fun hl => ?_, fun u hu h0 => ?_⟩
          · obtain ⟨u, c1, c2, c3⟩ := b1 hl
            exact ⟨u, tb_or.mpr (Or.inl c1), c2, c3⟩
          · rcases tb_or.mp hu with h1 | h1
            · exact b2 u h1 h0
            · subst h1
              exact absurd h0 hev) (hW.k q2) q1
      refine ⟨M2, k3_trans q2 r1, fun Q hQ => q3 Q ?_⟩
      have := r2 Q hQ
      rw [hcn] at this
      rw [iN_add, iN_step]
      exact this
