/-! loops that write: forward -/
theorem for_fwd {I : Nat → Mem → Prop} {St : Nat → Mem → (Option Vl → Mem → Prop) → Prop} {n : Nat} {M : Mem} (hs : ∀ i Mi, i < n → I i Mi → ∃ M', I (i + 1) M' ∧ ∀ Q, St (i + 1) M' Q → St i Mi Q) (h0 : I 0 M) : ∃ Mn, I n Mn ∧ ∀ Q, St n Mn Q → St 0 M Q := by
  have key : ∀ k, k ≤ n → ∃ Mk, I k Mk ∧ ∀ Q, St k Mk Q → St 0 M Q := by
    intro k
    induction k with
    | zero => intro _; exact ⟨M, h0, fun _ h => h⟩
    | succ k ih =>
      intro hk
      obtain ⟨Mk, h1, h2⟩ := ih (by omega)
      obtain ⟨M', h3, h4⟩ := hs k Mk (by omega) h1
      exact ⟨M', h3, fun Q h => h2 Q (h4 Q h)⟩
  exact key n (Nat.le_refl n)
/-- only the columns P (and of the row the cells R) change -/
abbrev only (c1 c2 : Nat) (a : Nat) : Nat → Nat → Prop := fun c b => (c = c1 ∨ c = c2) ∧ b = a
abbrev noR : Nat → Prop := fun _ => False
def rstep (p : Int32 × Int32) (l w : Int32) : Int32 × Int32 := if l + 1 ≤ p.1 then (if l + 1 = p.1 then (p.1, p.2 + w) else p) else (l + 1, w)
def rin (v L W : Nat → Int32) (i : Nat) : Nat → Int32 × Int32
  | 0 => (1, 1)
  | j + 1 => if v i ≤ v j then rin v L W i j else rstep (rin v L W i j) (L j) (W j)
def rall (v : Nat → Int32) : Nat → (Nat → Int32) × (Nat → Int32)
  | 0 => (fun _ => 0, fun _ => 0)
  | i + 1 => (upd (rall v i).1 i (rin v (rall v i).1 (rall v i).2 i i).1, upd (rall v i).2 i (rin v (rall v i).1 (rall v i).2 i i).2)
def rbest (v : Nat → Int32) : Nat → Int32 × Int32
  | 0 => (0, 1)
  | i + 1 => if (rall v (i + 1)).1 i ≤ (rbest v i).1 then (if (rall v (i + 1)).1 i = (rbest v i).1 then ((rbest v i).1, (rbest v i).2 + (rall v (i + 1)).2 i) else rbest v i) else ((rall v (i + 1)).1 i, (rall v (i + 1)).2 i)
theorem rall_keep (v : Nat → Int32) : ∀ (i j : Nat), j < i → (rall v i).1 j = (rall v (j + 1)).1 j ∧ (rall v i).2 j = (rall v (j + 1)).2 j
  | 0, j, h => by omega
  | i + 1, j, h => by
    by_cases hj : j = i
    · subst hj
      exact ⟨rfl, rfl⟩
    · have ih := rall_keep v i j (by omega)
      refine ⟨?_, ?_⟩
      · show upd _ i _ j = _
        rw [upd_ne hj]
        exact ih.1
      · show upd _ i _ j = _
        rw [upd_ne hj]
        exact ih.2
theorem upd_upd {f : Nat → Int32} {k : Nat} {x y : Int32} : upd (upd f k x) k y = upd f k y := by
  funext j
  unfold upd
  split <;> rfl
theorem c85 {X : Cx} {d : Nat} {M : Mem} {a i : Nat} {L W : Nat → Int32} (hi : i < 12) (hL : ∀ j, j < i → M.1 76 a j = L j) (hW : ∀ j, j < i → M.1 77 a j = W j) :
    ∃ M2, CC X (d + 1) 85 [vR 70 a, vI (iN i)] M none M2 ∧ M2.1 76 a = upd (M.1 76 a) i (rin (M.1 93 a) L W i i).1 ∧ M2.1 77 a = upd (M.1 77 a) i (rin (M.1 93 a) L W i i).2 ∧ Keep (only 76 77 a) noR M M2 := by
  have hib : inb (iN i) 12 := inb_of hi (by decide)
  have hxi : ix (iN i) = i := ix_of (by omega)
  have hs : ∀ (j : Nat) (Mj : Mem), j < i → (Mj.1 76 a = upd (M.1 76 a) i (rin (M.1 93 a) L W i j).1 ∧ Mj.1 77 a = upd (M.1 77 a) i (rin (M.1 93 a) L W i j).2 ∧ Keep (only 76 77 a) noR M Mj) → ∃ M', (M'.1 76 a = upd (M.1 76 a) i (rin (M.1 93 a) L W i (j + 1)).1 ∧ M'.1 77 a = upd (M.1 77 a) i (rin (M.1 93 a) L W i (j + 1)).2 ∧ Keep (only 76 77 a) noR M M') ∧ ∀ Q, V X (d + 1) 85 27 [some (vR 70 a), some (vI (iN i)), some (vI (iN (j + 1)))] [] M' Q → V X (d + 1) 85 27 [some (vR 70 a), some (vI (iN i)), some (vI (iN j))] [] Mj Q := by
    intro j Mj hj hI
    obtain ⟨g1, g2, g3⟩ := hI
    have hjb : inb (iN j) 12 := inb_of (by omega) (by decide)
    have hxj : ix (iN j) = j := ix_of (by omega)
    have hji : ¬ j = i := by omega
    have hv : Mj.1 93 a = M.1 93 a := g3.1 93 a (by simp) (by decide)
    have p1 : Mj.1 76 a j = L j := by rw [g1, upd_ne hji]; exact hL j hj
    have p2 : Mj.1 77 a j = W j := by rw [g2, upd_ne hji]; exact hW j hj
    have p3 : Mj.1 76 a i = (rin (M.1 93 a) L W i j).1 := by rw [g1, upd_at]
    have p4 : Mj.1 77 a i = (rin (M.1 93 a) L W i j).2 := by rw [g2, upd_at]
    by_cases hle : M.1 93 a i ≤ M.1 93 a j
    · refine ⟨Mj, ?_, fun Q hQ => w85_27 ⟨fun z => absurd ((iN_le (by omega) (by omega)).mp z) (by omega), fun _ => ⟨hjb, hib, ?_⟩⟩⟩
      · have e1 : rin (M.1 93 a) L W i (j + 1) = rin (M.1 93 a) L W i j := if_pos hle
        rw [e1]
        exact ⟨g1, g2, g3⟩
      · rw [hxi, hxj, hv, iN_step]
        exact ⟨fun _ => hQ, fun z => absurd hle z⟩
    · have e1 : rin (M.1 93 a) L W i (j + 1) = rstep (rin (M.1 93 a) L W i j) (L j) (W j) := if_neg hle
      by_cases h1 : L j + 1 ≤ (rin (M.1 93 a) L W i j).1
      · by_cases h2 : L j + 1 = (rin (M.1 93 a) L W i j).1
        · have e2 : rin (M.1 93 a) L W i (j + 1) = ((rin (M.1 93 a) L W i j).1, (rin (M.1 93 a) L W i j).2 + W j) := by rw [e1]; exact (if_pos h1).trans (if_pos h2)
          refine ⟨st Mj 77 a i ((rin (M.1 93 a) L W i j).2 + W j), ?_, fun Q hQ => w85_27 ⟨fun z => absurd ((iN_le (by omega) (by omega)).mp z) (by omega), fun _ => ⟨hjb, hib, ?_⟩⟩⟩
          · rw [e2]
            exact ⟨by rw [st_ne (fun z => absurd z.1 (by decide)), g1], by rw [st_eq, g2, upd_upd], kp_trans g3 (kp_st ⟨Or.inr rfl, rfl⟩ (by decide))⟩
          · rw [hxi, hxj, hv, iN_step, p1, p2, p3, p4]
            refine ⟨fun z => absurd z hle, fun _ => ⟨hjb, hib, fun _ => ⟨hjb, hib, fun z => absurd h2 z, fun _ => ⟨hib, hjb, hib, ?_⟩⟩, fun z => absurd h1 z⟩⟩
            rintro M1 rfl
            exact hQ
        · have e2 : rin (M.1 93 a) L W i (j + 1) = rin (M.1 93 a) L W i j := by rw [e1]; exact (if_pos h1).trans (if_neg h2)
          refine ⟨Mj, ?_, fun Q hQ => w85_27 ⟨fun z => absurd ((iN_le (by omega) (by omega)).mp z) (by omega), fun _ => ⟨hjb, hib, ?_⟩⟩⟩
          · rw [e2]
            exact ⟨g1, g2, g3⟩
          · rw [hxi, hxj, hv, iN_step, p1, p2, p3, p4]
            exact ⟨fun z => absurd z hle, fun _ => ⟨hjb, hib, fun _ => ⟨hjb, hib, fun _ => hQ, fun z => absurd z h2⟩, fun z => absurd h1 z⟩⟩
      · have e2 : rin (M.1 93 a) L W i (j + 1) = (L j + 1, W j) := by rw [e1]; exact if_neg h1
        refine ⟨st (st Mj 76 a i (L j + 1)) 77 a i (W j), ?_, fun Q hQ => w85_27 ⟨fun z => absurd ((iN_le (by omega) (by omega)).mp z) (by omega), fun _ => ⟨hjb, hib, ?_⟩⟩⟩
        · rw [e2]
          exact ⟨by rw [st_ne (fun z => absurd z.1 (by decide)), st_eq, g1, upd_upd], by rw [st_eq, st_ne (fun z => absurd z.1 (by decide)), g2, upd_upd], kp_trans g3 (kp_trans (kp_st ⟨Or.inl rfl, rfl⟩ (by decide)) (kp_st ⟨Or.inr rfl, rfl⟩ (by decide)))⟩
        · rw [hxi, hxj, hv, iN_step, p1, p2, p3, p4]
          refine ⟨fun z => absurd z hle, fun _ => ⟨hjb, hib, fun z => absurd z h1, fun _ => ⟨hjb, hib, ?_⟩⟩⟩
          rintro M2 rfl
          refine ⟨hjb, hib, ?_⟩
          rw [st_ne (fun z => absurd z.1 (by decide)), p2]
          rintro M3 rfl
          exact hQ
  obtain ⟨Mn, ⟨k1, k2, k3⟩, hV⟩ := for_fwd (n := i) (M := st (st M 76 a i 1) 77 a i 1) (I := fun j Mj => Mj.1 76 a = upd (M.1 76 a) i (rin (M.1 93 a) L W i j).1 ∧ Mj.1 77 a = upd (M.1 77 a) i (rin (M.1 93 a) L W i j).2 ∧ Keep (only 76 77 a) noR M Mj) (St := fun j Mj Q => V X (d + 1) 85 27 [some (vR 70 a), some (vI (iN i)), some (vI (iN j))] [] Mj Q) hs ⟨by rw [st_ne (fun z => absurd z.1 (by decide)), st_eq]; rfl, by rw [st_eq, st_ne (fun z => absurd z.1 (by decide))]; rfl, kp_trans (kp_st ⟨Or.inl rfl, rfl⟩ (by decide)) (kp_st ⟨Or.inr rfl, rfl⟩ (by decide))⟩
  refine ⟨Mn, e85 (w85_0 ⟨fun z => absurd z ?_, fun _ => ⟨fun _ => ⟨hib, ?_⟩, fun z => absurd ((iN_lt (b := 12) (by omega) (by decide)).mpr hi) z⟩⟩), k1, k2, k3⟩
  · exact fun z => absurd (iN_nn (n := i) (by omega)) (Int32.not_le.mpr z)
  · rw [hxi]
    rintro M1 rfl
    refine ⟨hib, ?_⟩
    rintro M2 rfl
    refine hV _ (w85_27 ⟨fun _ => ⟨rfl, rfl⟩, fun z => absurd ((iN_le (by omega) (by omega)).mpr (Nat.le_refl i)) z⟩)
theorem rall_at (v : Nat → Int32) (i : Nat) : (rall v (i + 1)).1 i = (rin v (rall v i).1 (rall v i).2 i i).1 ∧ (rall v (i + 1)).2 i = (rin v (rall v i).1 (rall v i).2 i i).2 := ⟨upd_at, upd_at⟩
theorem c84 {X : Cx} {d : Nat} {M : Mem} {a n : Nat} {q : Int32} (hn : n ≤ 12) (h : M.1 92 a 0 = iN n) :
    ∃ M2, CC X (d + 2) 84 [vR 70 a, vI q] M (some (vI (if q = 0 then (rbest (M.1 93 a) n).2 else (rbest (M.1 93 a) n).1))) M2 ∧ Keep (only 76 77 a) noR M M2 := by
  have hs : ∀ (i : Nat) (Mi : Mem), i < n → ((∀ j, j < i → Mi.1 76 a j = (rall (M.1 93 a) i).1 j ∧ Mi.1 77 a j = (rall (M.1 93 a) i).2 j) ∧ Keep (only 76 77 a) noR M Mi) → ∃ M', ((∀ j, j < i + 1 → M'.1 76 a j = (rall (M.1 93 a) (i + 1)).1 j ∧ M'.1 77 a j = (rall (M.1 93 a) (i + 1)).2 j) ∧ Keep (only 76 77 a) noR M M') ∧ ∀ Q, V X (d + 2) 84 7 [some (vR 70 a), some (vI q), some (vI (rbest (M.1 93 a) (i + 1)).1), some (vI (rbest (M.1 93 a) (i + 1)).2), some (vI (iN (i + 1)))] [] M' Q → V X (d + 2) 84 7 [some (vR 70 a), some (vI q), some (vI (rbest (M.1 93 a) i).1), some (vI (rbest (M.1 93 a) i).2), some (vI (iN i))] [] Mi Q := by
    intro i Mi hi hI
    obtain ⟨g1, g2⟩ := hI
    have hv : Mi.1 93 a = M.1 93 a := g2.1 93 a (by simp) (by decide)
    have hc : Mi.1 92 a 0 = iN n := by rw [g2.1 92 a (by simp) (by decide)]; exact h
    obtain ⟨M', k1, k2, k3, k4⟩ := c85 (X := X) (d := d) (M := Mi) (a := a) (i := i) (by omega) (fun j hj => (g1 j hj).1) (fun j hj => (g1 j hj).2)
    rw [hv] at k2 k3
    have hib : inb (iN i) 12 := inb_of (by omega) (by decide)
    have p1 : M'.1 76 a i = (rall (M.1 93 a) (i + 1)).1 i := by rw [k2, upd_at, (rall_at _ i).1]
    have p2 : M'.1 77 a i = (rall (M.1 93 a) (i + 1)).2 i := by rw [k3, upd_at, (rall_at _ i).2]
    refine ⟨M', ⟨fun j hj => ?_, kp_trans g2 k4⟩, fun Q hQ => w84_7 ⟨fun z => absurd ((iN_le (by omega) (by omega)).mp (hc ▸ z)) (by omega), fun _ => ⟨fun z => absurd ((iN_le (a := 12) (by decide) (by omega)).mp z) (by omega), fun _ => ⟨_, k1, hib, ?_⟩⟩⟩⟩
    · by_cases hji : j = i
      · subst hji
        exact ⟨p1, p2⟩
      · have r := rall_keep (M.1 93 a) (i + 1) j hj
        have r2 := rall_keep (M.1 93 a) i j (by omega)
        rw [k2, k3, upd_ne hji, upd_ne hji, r.1, r.2, ← r2.1, ← r2.2]
        exact g1 j (by omega)
    · rw [ix_of (by omega), p1, p2, iN_step]
      by_cases h1 : (rall (M.1 93 a) (i + 1)).1 i ≤ (rbest (M.1 93 a) i).1
      · by_cases h2 : (rall (M.1 93 a) (i + 1)).1 i = (rbest (M.1 93 a) i).1
        · have e1 : rbest (M.1 93 a) (i + 1) = ((rbest (M.1 93 a) i).1, (rbest (M.1 93 a) i).2 + (rall (M.1 93 a) (i + 1)).2 i) := (if_pos h1).trans (if_pos h2)
          rw [e1] at hQ
          exact ⟨fun _ => ⟨hib, fun z => absurd h2 z, fun _ => ⟨hib, hQ⟩⟩, fun z => absurd h1 z⟩
        · have e1 : rbest (M.1 93 a) (i + 1) = rbest (M.1 93 a) i := (if_pos h1).trans (if_neg h2)
          rw [e1] at hQ
          exact ⟨fun _ => ⟨hib, fun _ => hQ, fun z => absurd z h2⟩, fun z => absurd h1 z⟩
      · have e1 : rbest (M.1 93 a) (i + 1) = ((rall (M.1 93 a) (i + 1)).1 i, (rall (M.1 93 a) (i + 1)).2 i) := if_neg h1
        rw [e1] at hQ
        exact ⟨fun z => absurd z h1, fun _ => ⟨hib, hib, hQ⟩⟩
  obtain ⟨Mn, ⟨-, k2⟩, hV⟩ := for_fwd (n := n) (M := M) (I := fun i Mi => (∀ j, j < i → Mi.1 76 a j = (rall (M.1 93 a) i).1 j ∧ Mi.1 77 a j = (rall (M.1 93 a) i).2 j) ∧ Keep (only 76 77 a) noR M Mi) (St := fun i Mi Q => V X (d + 2) 84 7 [some (vR 70 a), some (vI q), some (vI (rbest (M.1 93 a) i).1), some (vI (rbest (M.1 93 a) i).2), some (vI (iN i))] [] Mi Q) hs ⟨fun j hj => by omega, kp_refl⟩
  have hc : Mn.1 92 a 0 = iN n := by rw [k2.1 92 a (by simp) (by decide)]; exact h
  refine ⟨Mn, e84 (w84_0 (hV _ (w84_7 ⟨fun _ => ⟨fun z => ⟨by rw [if_pos z], rfl⟩, fun z => ⟨by rw [if_neg z], rfl⟩⟩, fun z => absurd ?_ z⟩))), k2⟩
  rw [hc]
  exact (iN_le (by omega) (by omega)).mpr (Nat.le_refl n)
/-! the reference's rows -/
theorem iN_633 (j : Nat) : 633 + iN j = iN (633 + j) := by simp only [iN_lit, iN_add]
theorem c269_in {X : Cx} {d : Nat} {M : Mem} {i n : Nat} {v L W : Nat → Int32} (hi : i < 12) (hin : i < n) (hv : ∀ j, j < n → M.1 101 0 (633 + j) = v j) (hL : ∀ j, j < i → M.1 118 0 j = L j) (hW : ∀ j, j < i → M.1 119 0 j = W j) :
    ∃ M2, (∀ Q, V X (d + 1) 269 2 [some (vR 100 0), some (vI (iN (i + 1))), none] [] M2 Q → V X (d + 1) 269 30 [some (vR 100 0), some (vI (iN i)), some (vI (iN 0))] [] (st (st M 118 0 i 1) 119 0 i 1) Q) ∧ M2.1 118 0 = upd (M.1 118 0) i (rin v L W i i).1 ∧ M2.1 119 0 = upd (M.1 119 0) i (rin v L W i i).2 ∧ Keep (only 118 119 0) noR M M2 := by
  have hib : inb (iN i) 12 := inb_of hi (by decide)
  have hxi : ix (iN i) = i := ix_of (by omega)
  have hs : ∀ (j : Nat) (Mj : Mem), j < i → (Mj.1 118 0 = upd (M.1 118 0) i (rin v L W i j).1 ∧ Mj.1 119 0 = upd (M.1 119 0) i (rin v L W i j).2 ∧ Keep (only 118 119 0) noR M Mj) → ∃ M', (M'.1 118 0 = upd (M.1 118 0) i (rin v L W i (j + 1)).1 ∧ M'.1 119 0 = upd (M.1 119 0) i (rin v L W i (j + 1)).2 ∧ Keep (only 118 119 0) noR M M') ∧ ∀ Q, V X (d + 1) 269 30 [some (vR 100 0), some (vI (iN i)), some (vI (iN (j + 1)))] [] M' Q → V X (d + 1) 269 30 [some (vR 100 0), some (vI (iN i)), some (vI (iN j))] [] Mj Q := by
    intro j Mj hj hI
    obtain ⟨g1, g2, g3⟩ := hI
    have hjb : inb (iN j) 12 := inb_of (by omega) (by decide)
    have hxj : ix (iN j) = j := ix_of (by omega)
    have hji : ¬ j = i := by omega
    have q1 : Mj.1 101 0 (ix (633 + iN i)) = v i := by rw [iN_633, ix_of (by omega), g3.2 _ (fun z => z)]; exact hv i hin
    have q2 : Mj.1 101 0 (ix (633 + iN j)) = v j := by rw [iN_633, ix_of (by omega), g3.2 _ (fun z => z)]; exact hv j (by omega)
    have b1 : inb (633 + iN i) 2129 := by rw [iN_633]; exact inb_of (by omega) (by decide)
    have b2 : inb (633 + iN j) 2129 := by rw [iN_633]; exact inb_of (by omega) (by decide)
    have p1 : Mj.1 118 0 j = L j := by rw [g1, upd_ne hji]; exact hL j hj
    have p2 : Mj.1 119 0 j = W j := by rw [g2, upd_ne hji]; exact hW j hj
    have p3 : Mj.1 118 0 i = (rin v L W i j).1 := by rw [g1, upd_at]
    have p4 : Mj.1 119 0 i = (rin v L W i j).2 := by rw [g2, upd_at]
    have front : ∀ {Q}, ((v i ≤ v j → V X (d + 1) 269 30 [some (vR 100 0), some (vI (iN i)), some (vI (iN (j + 1)))] [] Mj Q) ∧ (¬ v i ≤ v j → inb (iN j) 12 ∧ inb (iN i) 12 ∧ (((rin v L W i j).1 ≤ L j + 1 → inb (iN j) 12 ∧ inb (iN i) 12 ∧ ((L j + 1 ≤ (rin v L W i j).1 → inb (iN i) 12 ∧ inb (iN j) 12 ∧ inb (iN i) 12 ∧ ∀ M1, M1 = st Mj 119 0 i ((rin v L W i j).2 + W j) → inb (iN j) 12 ∧ inb (iN i) 12 ∧ ∀ M2, M2 = st M1 118 0 i ((M1.1 118 0 j) + 1) → V X (d + 1) 269 30 [some (vR 100 0), some (vI (iN i)), some (vI (iN (j + 1)))] [] M2 Q) ∧ (¬ L j + 1 ≤ (rin v L W i j).1 → inb (iN j) 12 ∧ inb (iN i) 12 ∧ ∀ M3, M3 = st Mj 119 0 i (W j) → inb (iN j) 12 ∧ inb (iN i) 12 ∧ ∀ M4, M4 = st M3 118 0 i ((M3.1 118 0 j) + 1) → V X (d + 1) 269 30 [some (vR 100 0), some (vI (iN i)), some (vI (iN (j + 1)))] [] M4 Q))) ∧ (¬ (rin v L W i j).1 ≤ L j + 1 → V X (d + 1) 269 30 [some (vR 100 0), some (vI (iN i)), some (vI (iN (j + 1)))] [] Mj Q)))) → V X (d + 1) 269 30 [some (vR 100 0), some (vI (iN i)), some (vI (iN j))] [] Mj Q := by
      intro Q hQ
      refine w269_30 ⟨fun z => absurd ((iN_le (by omega) (by omega)).mp z) (by omega), fun _ => ⟨b2, b1, ?_⟩⟩
      rw [q1, q2, hxi, hxj, iN_step, p1, p2, p3, p4]
      exact hQ
    by_cases hle : v i ≤ v j
    · refine ⟨Mj, ?_, fun Q hQ => front ⟨fun _ => hQ, fun z => absurd hle z⟩⟩
      have e1 : rin v L W i (j + 1) = rin v L W i j := if_pos hle
      rw [e1]
      exact ⟨g1, g2, g3⟩
    · have e1 : rin v L W i (j + 1) = rstep (rin v L W i j) (L j) (W j) := if_neg hle
      by_cases h1 : L j + 1 ≤ (rin v L W i j).1
      · by_cases h2 : L j + 1 = (rin v L W i j).1
        · have e2 : rin v L W i (j + 1) = ((rin v L W i j).1, (rin v L W i j).2 + W j) := by rw [e1]; exact (if_pos h1).trans (if_pos h2)
          have h3 : (rin v L W i j).1 ≤ L j + 1 := by rw [h2]; exact Int32.le_refl _
          refine ⟨st (st Mj 119 0 i ((rin v L W i j).2 + W j)) 118 0 i (L j + 1), ?_, fun Q hQ => front ⟨fun z => absurd z hle, fun _ => ⟨hjb, hib, fun _ => ⟨hjb, hib, fun _ => ⟨hib, hjb, hib, ?_⟩, fun z => absurd h1 z⟩, fun z => absurd h3 z⟩⟩⟩
          · rw [e2]
            exact ⟨by rw [st_eq, st_ne (fun z => absurd z.1 (by decide)), g1, upd_upd, h2], by rw [st_ne (fun z => absurd z.1 (by decide)), st_eq, g2, upd_upd], kp_trans g3 (kp_trans (kp_st ⟨Or.inr rfl, rfl⟩ (by decide)) (kp_st ⟨Or.inl rfl, rfl⟩ (by decide)))⟩
          · rintro M1 rfl
            refine ⟨hjb, hib, ?_⟩
            rw [st_ne (fun z => absurd z.1 (by decide)), p1]
            rintro M2 rfl
            exact hQ
        · have e2 : rin v L W i (j + 1) = rin v L W i j := by rw [e1]; exact (if_pos h1).trans (if_neg h2)
          have h3 : ¬ (rin v L W i j).1 ≤ L j + 1 := fun z => h2 (Int32.le_antisymm h1 z)
          refine ⟨Mj, ?_, fun Q hQ => front ⟨fun z => absurd z hle, fun _ => ⟨hjb, hib, fun z => absurd z h3, fun _ => hQ⟩⟩⟩
          rw [e2]
          exact ⟨g1, g2, g3⟩
      · have e2 : rin v L W i (j + 1) = (L j + 1, W j) := by rw [e1]; exact if_neg h1
        have h3 : (rin v L W i j).1 ≤ L j + 1 := (Int32.le_total _ _).resolve_right h1
        refine ⟨st (st Mj 119 0 i (W j)) 118 0 i (L j + 1), ?_, fun Q hQ => front ⟨fun z => absurd z hle, fun _ => ⟨hjb, hib, fun _ => ⟨hjb, hib, fun z => absurd z h1, fun _ => ⟨hjb, hib, ?_⟩⟩, fun z => absurd h3 z⟩⟩⟩
        · rw [e2]
          exact ⟨by rw [st_eq, st_ne (fun z => absurd z.1 (by decide)), g1, upd_upd], by rw [st_ne (fun z => absurd z.1 (by decide)), st_eq, g2, upd_upd], kp_trans g3 (kp_trans (kp_st ⟨Or.inr rfl, rfl⟩ (by decide)) (kp_st ⟨Or.inl rfl, rfl⟩ (by decide)))⟩
        · rintro M1 rfl
          refine ⟨hjb, hib, ?_⟩
          rw [st_ne (fun z => absurd z.1 (by decide)), p1]
          rintro M2 rfl
          exact hQ
  obtain ⟨Mn, ⟨k1, k2, k3⟩, hV⟩ := for_fwd (n := i) (M := st (st M 118 0 i 1) 119 0 i 1) (I := fun j Mj => Mj.1 118 0 = upd (M.1 118 0) i (rin v L W i j).1 ∧ Mj.1 119 0 = upd (M.1 119 0) i (rin v L W i j).2 ∧ Keep (only 118 119 0) noR M Mj) (St := fun j Mj Q => V X (d + 1) 269 30 [some (vR 100 0), some (vI (iN i)), some (vI (iN j))] [] Mj Q) hs ⟨by rw [st_ne (fun z => absurd z.1 (by decide)), st_eq]; rfl, by rw [st_eq, st_ne (fun z => absurd z.1 (by decide))]; rfl, kp_trans (kp_st ⟨Or.inl rfl, rfl⟩ (by decide)) (kp_st ⟨Or.inr rfl, rfl⟩ (by decide))⟩
  refine ⟨Mn, fun Q hQ => hV Q (w269_30 ⟨fun _ => ?_, fun z => absurd ((iN_le (by omega) (by omega)).mpr (Nat.le_refl i)) z⟩), k1, k2, k3⟩
  rw [iN_step]
  exact hQ
theorem c269 {X : Cx} {d : Nat} {M : Mem} {n : Nat} {v : Nat → Int32} (hn : n ≤ 12) (h : M.1 101 0 240 = iN n) (hv : ∀ j, j < n → M.1 101 0 (633 + j) = v j) :
    ∃ M2, CC X (d + 1) 269 [vR 100 0] M none M2 ∧ (∀ j, j < n → M2.1 118 0 j = (rall v n).1 j ∧ M2.1 119 0 j = (rall v n).2 j) ∧ Keep (only 118 119 0) noR M M2 := by
  have hi : inb 240 2129 := inb_l (by decide) (by decide)
  have hx : ix 240 = 240 := ix_l (by decide)
  have hs : ∀ (i : Nat) (Mi : Mem), i < n → ((∀ j, j < i → Mi.1 118 0 j = (rall v i).1 j ∧ Mi.1 119 0 j = (rall v i).2 j) ∧ Keep (only 118 119 0) noR M Mi) → ∃ M', ((∀ j, j < i + 1 → M'.1 118 0 j = (rall v (i + 1)).1 j ∧ M'.1 119 0 j = (rall v (i + 1)).2 j) ∧ Keep (only 118 119 0) noR M M') ∧ ∀ Q, V X (d + 1) 269 2 [some (vR 100 0), some (vI (iN (i + 1))), none] [] M' Q → V X (d + 1) 269 2 [some (vR 100 0), some (vI (iN i)), none] [] Mi Q := by
    intro i Mi hin hI
    obtain ⟨g1, g2⟩ := hI
    have hc : Mi.1 101 0 (ix 240) = iN n := by rw [hx, g2.2 _ (fun z => z)]; exact h
    have hib : inb (iN i) 12 := inb_of (by omega) (by decide)
    obtain ⟨M', k1, k2, k3, k4⟩ := c269_in (X := X) (d := d) (M := Mi) (i := i) (n := n) (v := v) (by omega) hin (fun j hj => by rw [g2.2 _ (fun z => z)]; exact hv j hj) (fun j hj => (g1 j hj).1) (fun j hj => (g1 j hj).2)
    refine ⟨M', ⟨fun j hj => ?_, kp_trans g2 k4⟩, fun Q hQ => w269_2 ⟨hi, fun z => absurd ((iN_le (by omega) (by omega)).mp (hc ▸ z)) (by omega), fun _ => ⟨hib, ?_⟩⟩⟩
    · by_cases hji : j = i
      · subst hji
        exact ⟨by rw [k2, upd_at, (rall_at _ j).1], by rw [k3, upd_at, (rall_at _ j).2]⟩
      · have r := rall_keep v (i + 1) j hj
        have r2 := rall_keep v i j (by omega)
        rw [k2, k3, upd_ne hji, upd_ne hji, r.1, r.2, ← r2.1, ← r2.2]
        exact g1 j (by omega)
    · rw [ix_of (by omega)]
      rintro M1 rfl
      refine ⟨hib, ?_⟩
      rintro M2 rfl
      exact k1 Q hQ
  obtain ⟨Mn, ⟨k1, k2⟩, hV⟩ := for_fwd (n := n) (M := M) (I := fun i Mi => (∀ j, j < i → Mi.1 118 0 j = (rall v i).1 j ∧ Mi.1 119 0 j = (rall v i).2 j) ∧ Keep (only 118 119 0) noR M Mi) (St := fun i Mi Q => V X (d + 1) 269 2 [some (vR 100 0), some (vI (iN i)), none] [] Mi Q) hs ⟨fun j hj => by omega, kp_refl⟩
  have hc : Mn.1 101 0 (ix 240) = iN n := by rw [hx, k2.2 _ (fun z => z)]; exact h
  refine ⟨Mn, e269 (w269_0 (hV _ (w269_2 ⟨hi, fun _ => ⟨rfl, rfl⟩, fun z => absurd ?_ z⟩))), k1, k2⟩
  rw [hc]
  exact (iN_le (by omega) (by omega)).mpr (Nat.le_refl n)
theorem c270 {X : Cx} {d : Nat} {M : Mem} {n : Nat} {q : Int32} {v : Nat → Int32} (hn : n ≤ 12) (h : M.1 101 0 240 = iN n) (hv : ∀ j, j < n → M.1 101 0 (633 + j) = v j) (hq : inR q 0 1 = true) :
    ∃ M2, CC X (d + 2) 270 [vR 100 0, vI q] M (some (vI (if q = 0 then (rbest v n).1 else (rbest v n).2))) M2 ∧ Keep (only 118 119 0) noR M M2 := by
  have hi : inb 240 2129 := inb_l (by decide) (by decide)
  have hx : ix 240 = 240 := ix_l (by decide)
  obtain ⟨M2, k1, k2, k3⟩ := c269 (X := X) (d := d) hn h hv
  have hc : M2.1 101 0 (ix 240) = iN n := by rw [hx, k3.2 _ (fun z => z)]; exact h
  refine ⟨M2, e270 (w270_0 ⟨_, _, c151, bI_if1 (fun _ => ⟨_, k1, ?_⟩) (fun z => by rw [hq] at z; cases z)⟩), k3⟩
  refine for_up (P := fun i => V X (d + 2) 270 22 [some (vR 100 0), some (vI q), some (vI (rbest v i).1), some (vI (rbest v i).2), some (vI (iN i))] [] M2 _) (n := n) (fun i hin hP => ?_) ?_
  · have hib : inb (iN i) 12 := inb_of (by omega) (by decide)
    have r := rall_keep v n i hin
    refine w270_22 ⟨hi, fun z => absurd ((iN_le (by omega) (by omega)).mp (hc ▸ z)) (by omega), fun _ => ⟨hib, ?_⟩⟩
    rw [ix_of (by omega), (k2 i hin).1, (k2 i hin).2, r.1, r.2, iN_step]
    by_cases h1 : (rall v (i + 1)).1 i ≤ (rbest v i).1
    · by_cases h2 : (rall v (i + 1)).1 i = (rbest v i).1
      · have e1 : rbest v (i + 1) = ((rbest v i).1, (rbest v i).2 + (rall v (i + 1)).2 i) := (if_pos h1).trans (if_pos h2)
        rw [e1] at hP
        rw [h2]
        exact ⟨fun _ => ⟨hib, fun _ => ⟨hib, hib, hP⟩, fun z => absurd (Int32.le_refl _) z⟩, fun z => absurd (Int32.le_refl _) z⟩
      · have e1 : rbest v (i + 1) = rbest v i := (if_pos h1).trans (if_neg h2)
        rw [e1] at hP
        exact ⟨fun z => absurd (Int32.le_antisymm h1 z) h2, fun _ => hP⟩
    · have e1 : rbest v (i + 1) = ((rall v (i + 1)).1 i, (rall v (i + 1)).2 i) := if_neg h1
      rw [e1] at hP
      exact ⟨fun _ => ⟨hib, fun z => absurd z h1, fun _ => ⟨hib, hib, hP⟩⟩, fun z => absurd ((Int32.le_total _ _).resolve_right h1) z⟩
  · refine w270_22 ⟨hi, fun _ => ⟨fun z => ⟨by rw [if_neg z], rfl⟩, fun z => ⟨by rw [if_pos z], rfl⟩⟩, fun z => absurd ?_ z⟩
    rw [hc]
    exact (iN_le (by omega) (by omega)).mpr (Nat.le_refl n)
abbrev GV : Int32 → Int32 → Bool := fun x _ => inR x 0 99
/-- row, both -/
theorem op141 {X : Cx} {d : Nat} {M : Mem} {n : Nat} {q : Int32} (h : ToldR M 92 0 (M.1 101 0) 240 633 1 12 GV n) : ∃ (x : Int32) (M1 M2 : Mem), CC X (d + 3) 141 [vR 2 0, vI q] M (some (vI x)) M1 ∧ CC X (d + 3) 270 [vR 100 0, vI q] M1 (some (vI x)) M2 ∧ Keep (fun c a => (c = 76 ∨ c = 77 ∨ c = 118 ∨ c = 119) ∧ a = 0) noR M M2 := by
  obtain ⟨q1, q2, q3, q4, q5, q6⟩ := h
  have hv : ∀ j, j < n → M.1 101 0 (633 + j) = M.1 93 0 j := fun j hj => by
    have := q4 j hj
    rw [Nat.one_mul] at this
    exact this.symm
  by_cases hq : inR q 0 1 = true
  · by_cases hz : q = 0
    · obtain ⟨M1, k1, k2⟩ := c84 (X := X) (d := d) (M := M) (a := 0) (q := 1) q1 q2
      obtain ⟨M2, k3, k4⟩ := c270 (X := X) (d := d + 1) (M := M1) (n := n) (q := q) (v := M.1 93 0) q1 (by rw [k2.2 _ (fun z => z)]; exact q3) (fun j hj => by rw [k2.2 _ (fun z => z)]; exact hv j hj) hq
      rw [if_neg (by decide)] at k1
      rw [if_pos hz] at k3
      exact ⟨_, M1, M2, e141 (w141_0 ⟨_, _, c146, bI_if (fun z => by rw [hq] at z; cases z) (fun _ => ⟨fun z => absurd hz z, fun _ => ⟨_, _, k1, rfl, rfl⟩⟩)⟩), k3, kp_trans (kp_sub k2 (fun c a z => by omega) (fun _ z => z)) (kp_sub k4 (fun c a z => by omega) (fun _ z => z))⟩
    · obtain ⟨M1, k1, k2⟩ := c84 (X := X) (d := d) (M := M) (a := 0) (q := 0) q1 q2
      obtain ⟨M2, k3, k4⟩ := c270 (X := X) (d := d + 1) (M := M1) (n := n) (q := q) (v := M.1 93 0) q1 (by rw [k2.2 _ (fun z => z)]; exact q3) (fun j hj => by rw [k2.2 _ (fun z => z)]; exact hv j hj) hq
      rw [if_pos rfl] at k1
      rw [if_neg hz] at k3
      exact ⟨_, M1, M2, e141 (w141_0 ⟨_, _, c146, bI_if (fun z => by rw [hq] at z; cases z) (fun _ => ⟨fun _ => ⟨_, _, k1, rfl, rfl⟩, fun z => absurd z hz⟩)⟩), k3, kp_trans (kp_sub k2 (fun c a z => by omega) (fun _ z => z)) (kp_sub k4 (fun c a z => by omega) (fun _ z => z))⟩
  · have hq : inR q 0 1 = false := by simpa using hq
    exact ⟨-1, M, M, e141 (w141_0 ⟨_, _, c146, bI_if (fun _ => ⟨rfl, rfl⟩) (fun z => by rw [hq] at z; cases z)⟩), e270 (w270_0 ⟨_, _, c151, bI_if1 (fun z => by rw [hq] at z; cases z) (fun _ => ⟨rfl, rfl⟩)⟩), kp_refl⟩
