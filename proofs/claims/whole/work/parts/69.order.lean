/-! order, both -/
theorem pow_b {c : Nat} (h5 : c ≤ 5) : c ^ c ≤ 3125 := by
  rcases (show c = 0 ∨ c = 1 ∨ c = 2 ∨ c = 3 ∨ c = 4 ∨ c = 5 by omega) with rfl | rfl | rfl | rfl | rfl | rfl <;> decide
theorem hadN_lt {c k : Nat} (h1 : 1 ≤ c) (h5 : c ≤ 5) : ∀ t : Nat, hadN c k t < 1024
  | 0 => by show 0 < 1024; decide
  | t + 1 => (pk_i _ (by have := Nat.mod_lt (k / c ^ t) (show c > 0 by omega); omega) _ (hadN_lt h1 h5 t)).1
/-- the reference lays an order by its number -/
theorem c242 {X : Cx} {d : Nat} {M : Mem} {c k : Nat} {fs : Nat → Nat} (h1 : 1 ≤ c) (h5 : c ≤ 5) (hk : k < c ^ c) (ha : ∀ i, i < c → M.1 112 0 i = iN (fs i)) : ∃ M', CC X (d + 1) 242 [vR 100 0, vI (iN k), vI (iN c)] M (some (vI (bI (okD c k)))) M' ∧ ByR M' ((dgL c k).map fs) ∧ K3 Wb M M' := by
  have hpb := pow_b h5
  have hne : ¬ iN c = 0 := fun z => absurd ((iN_inj (b := 0) (by omega) (by decide)).mp z) (by omega)
  have run : ∀ (s t : Nat) (N : Mem), t + s = c → (∀ i, c - t ≤ i → i < c → N.1 111 0 i = iN (fs (k / c ^ (c - 1 - i) % c))) → (∀ i, i < c → N.1 112 0 i = iN (fs i)) → ∃ M', (∀ i, i < c → M'.1 111 0 i = iN (fs (k / c ^ (c - 1 - i) % c))) ∧ M'.1 100 0 28 = iN c ∧ K3 Wb N M' ∧ ∀ Q : Option Vl → Mem → Prop, Q (some (vI (bI (okD c k)))) M' → V X (d + 1) 242 10 [some (vR 100 0), none, some (vI (iN c)), some (vI (iN (k / c ^ t))), some (vI (iN (hadN c k t))), some (vI (iN s - 1))] [] N Q := by
    intro s
    induction s with
    | zero =>
      intro t N ht hb ha
      have : t = c := ht
      subst this
      refine ⟨st N 100 0 28 (iN t), fun i hi => by rw [st_ne3 (fun z => absurd z.1 (by decide))]; exact hb i (by omega) hi, st_at, k3_st (Or.inr ⟨rfl, rfl, rfl⟩), fun Q hQ => w242_10 ⟨fun _ => ?_, fun z => absurd (by decide) z⟩⟩
      rintro M1 rfl
      have hl := hadN_lt (k := k) h1 h5 t
      have hp2 : 2 ^ t ≤ 32 := Nat.le_trans (Nat.pow_le_pow_right (by decide) h5) (by decide)
      have hp1 : 1 ≤ 2 ^ t := Nat.pow_pos (by decide)
      rw [sh_t t (by omega), show iN (2 ^ t) - 1 = iN (2 ^ t - 1) from iN_sub (b := 1) hp1]
      refine ⟨fun z => ⟨isB0, ?_⟩, fun z => ⟨isB1, ?_⟩⟩
      · have e : okD t k = false := by
          unfold okD
          cases hbq : Nat.beq (hadN t k t) (2 ^ t - 1) with
          | false => rfl
          | true => exact absurd (by rw [Nat.eq_of_beq_eq_true hbq]) z
        rw [e] at hQ
        exact hQ
      · have e : okD t k = true := by
          unfold okD
          rw [(iN_inj (by omega) (by omega)).mp z]
          exact Nat.beq_refl _
        rw [e] at hQ
        exact hQ
    | succ s ih =>
      intro t N ht hb ha
      have hkt : k / c ^ t ≤ k := Nat.div_le_self ..
      have hmod := Nat.mod_lt (k / c ^ t) (show c > 0 by omega)
      have hpk := pk_i (k / c ^ t % c) (by omega) _ (hadN_lt (k := k) h1 h5 t)
      obtain ⟨M', q1, q2, q3, q4⟩ := ih (t + 1) (st N 111 0 s (iN (fs (k / c ^ t % c)))) (by omega) (fun i hi1 hi2 => by
        by_cases hs : i = s
        · subst hs
          rw [st_at, show c - 1 - i = t by omega]
        · rw [st_ne3 (fun z => hs z.2.2)]
          exact hb i (by omega) hi2) (fun i hi => by rw [st_ne3 (fun z => absurd z.1 (by decide))]; exact ha i hi)
      refine ⟨M', q1, q2, k3_trans (k3_st (Or.inl ⟨rfl, rfl⟩)) q3, fun Q hQ => w242_10 ?_⟩
      rw [iN_pred]
      refine ⟨fun z => absurd z (Int32.not_lt.mpr (iN_nn (by omega))), fun _ => ?_⟩
      rw [iN_mod (by omega) (by omega) (by omega), iN_div (by omega) (by omega) (by omega), ix_of (by omega), ix_of (by omega), ha _ hmod, hpk.2.1, iN_m1, Nat.div_div_eq_div_mul, ← Nat.pow_succ]
      refine ⟨hne, inb_of (by omega) (by decide), inb_of (by omega) (by decide), ?_⟩
      rintro M2 rfl
      exact ⟨hne, hne, q4 Q hQ⟩
  obtain ⟨M', q1, q2, q3, q4⟩ := run c 0 M (by omega) (fun i h1 h2 => absurd h2 (by omega)) ha
  rw [Nat.pow_zero, Nat.div_one] at q4
  refine ⟨M', e242 (w242_0 (q4 _ ⟨rfl, rfl⟩)), ⟨by simp [dgL]; omega, by simp only [dgL, List.length_map, List.length_range]; exact q2, fun j f hj => ?_⟩, q3⟩
  have hjl : j < ((dgL c k).map fs).length := (List.getElem?_eq_some_iff.mp hj).1
  simp only [dgL, List.length_map, List.length_range] at hjl
  simp only [dgL, List.map_map, List.getElem?_map, List.getElem?_range hjl, Option.map_some, Option.some.injEq, Function.comp] at hj
  rw [q1 j hjl, hj]
/-- the list of chosen fields -/
theorem c243_bits {X : Cx} {d n F : Nat} {x1 x2 x4 : Int32} (hn : n ≤ 10) (hF : F < 1024) : ∀ (t j : Nat) (M : Mem), j + t = n → cnK F j ≤ 5 → M.1 101 0 229 = iN n → (∀ (i f : Nat), (bsL F j)[i]? = some f → M.1 112 0 i = iN f) → ∃ M', K3 (fun c a _ => c = 112 ∧ a = 0) M M' ∧ (cnK F n ≤ 5 → ∀ (i f : Nat), (bsL F n)[i]? = some f → M'.1 112 0 i = iN f) ∧ ∀ Q : Option Vl → Mem → Prop, (if cnK F n ≤ 5 then V X (d + 1) 243 44 [some (vR 100 0), some (vI x1), some (vI x2), some (vI (iN F)), some (vI x4), some (vI (iN (cnK F n))), some (vI (iN n)), none, none, none, none] [] M' Q else Q (some (vI (-1))) M') → V X (d + 1) 243 44 [some (vR 100 0), some (vI x1), some (vI x2), some (vI (iN F)), some (vI x4), some (vI (iN (cnK F j))), some (vI (iN j)), none, none, none, none] [] M Q
  | 0, j, M, hj, hc, h229, ha => by
    have : j = n := hj
    subst this
    refine ⟨M, k3_refl, fun _ => ha, fun Q hQ => ?_⟩
    rw [if_pos hc] at hQ
    exact hQ
  | t + 1, j, M, hj, hc, h229, ha => by
    have x229 : M.1 101 0 (ix 229) = iN n := by rw [show ix 229 = 229 from ix_l (by decide)]; exact h229
    have hb3 := (pk_i j (by omega) F hF).2.2
    by_cases hb : Nat.testBit F j = true
    · have e : cnK F (j + 1) = cnK F j + 1 := if_pos hb
      have eb : bsL F (j + 1) = bsL F j ++ [j] := if_pos hb
      by_cases h5 : cnK F j = 5
      · have hgt : ¬ cnK F n ≤ 5 := by
          have := cnK_mono (F := F) (i := j + 1) (j := n) (by omega)
          omega
        refine ⟨M, k3_refl, fun z => absurd z hgt, fun Q hQ => w243_44 ⟨inb_l (by decide) (by decide), fun z => absurd ((iN_le (by omega) (by omega)).mp (x229 ▸ z)) (by omega), fun _ => ?_⟩⟩
        rw [if_neg hgt] at hQ
        rw [hb3, if_pos hb, h5]
        exact ⟨fun _ => ⟨fun z => absurd rfl z, fun _ => hQ⟩, fun z => absurd z (by decide)⟩
      · obtain ⟨M', q1, q2, q3⟩ := c243_bits (X := X) (d := d) (x1 := x1) (x2 := x2) (x4 := x4) hn hF t (j + 1) (st M 112 0 (cnK F j) (iN j)) (by omega) (by omega) (by rw [st_ne3 (fun z => absurd z.1 (by decide))]; exact h229) (fun i f hi => by
          rw [eb] at hi
          have hl := bsL_len (F := F) (j := j)
          by_cases hij : i < (bsL F j).length
          · rw [List.getElem?_append_left hij] at hi
            rw [st_ne3 (by omega)]
            exact ha i f hi
          · rw [List.getElem?_append_right (by omega)] at hi
            have hi0 : i - (bsL F j).length = 0 := by
              have := (List.getElem?_eq_some_iff.mp hi).1
              simp at this
              omega
            rw [hi0] at hi
            have : j = f := by simpa using hi
            subst this
            rw [show i = cnK F j by omega, st_at])
        rw [e] at q3
        refine ⟨M', k3_trans (k3_st ⟨rfl, rfl⟩) q1, q2, fun Q hQ => w243_44 ⟨inb_l (by decide) (by decide), fun z => absurd ((iN_le (by omega) (by omega)).mp (x229 ▸ z)) (by omega), fun _ => ?_⟩⟩
        rw [hb3, if_pos hb, ix_of (by omega), iN_step, iN_step]
        refine ⟨fun _ => ⟨fun _ => ⟨inb_of (by omega) (by decide), ?_⟩, fun z => absurd ((iN_inj (b := 5) (by omega) (by decide)).mp z) h5⟩, fun z => absurd z (by decide)⟩
        rintro M2 rfl
        exact q3 Q hQ
    · have e : cnK F (j + 1) = cnK F j := if_neg hb
      have eb : bsL F (j + 1) = bsL F j := if_neg hb
      obtain ⟨M', q1, q2, q3⟩ := c243_bits (X := X) (d := d) (x1 := x1) (x2 := x2) (x4 := x4) hn hF t (j + 1) M (by omega) (by omega) h229 (by rw [eb]; exact ha)
      rw [e] at q3
      refine ⟨M', q1, q2, fun Q hQ => w243_44 ⟨inb_l (by decide) (by decide), fun z => absurd ((iN_le (by omega) (by omega)).mp (x229 ▸ z)) (by omega), fun _ => ?_⟩⟩
      rw [hb3, if_neg hb, iN_step, iN_step]
      exact ⟨fun z => absurd rfl z, fun _ => q3 Q hQ⟩
abbrev OrR : Nat → Nat → Nat → Prop := fun c a j => ThR c a j ∨ ((c = 112 ∨ c = 113) ∧ a = 0)
theorem c243_copy {X : Cx} {d c : Nat} {M : Mem} {l : List Nat} {x1 x2 x4 x6 x7 x8 : Int32} (hl : l.length = c) (h5 : c ≤ 5) (hb : ByR M l) : ∃ M', (∀ i, i < c → M'.1 113 0 i = iN (l.getD i 0)) ∧ K3 (fun c a _ => c = 113 ∧ a = 0) M M' ∧ ∀ Q : Option Vl → Mem → Prop, V X (d + 1) 243 149 [some (vR 100 0), some (vI x1), some (vI x2), none, some (vI x4), some (vI (iN c)), some (vI x6), some (vI x7), some (vI (x8 + 1)), none, none] [] M' Q → V X (d + 1) 243 203 [some (vR 100 0), some (vI x1), some (vI x2), none, some (vI x4), some (vI (iN c)), some (vI x6), some (vI x7), some (vI x8), none, some (vI 0)] [] M Q := by
  obtain ⟨M2, ⟨i1, i2⟩, hV⟩ := for_fwd (n := c) (M := M)
    (I := fun t Mt => (∀ i, i < t → Mt.1 113 0 i = iN (l.getD i 0)) ∧ K3 (fun c a _ => c = 113 ∧ a = 0) M Mt)
    (St := fun t Mt Q => V X (d + 1) 243 203 [some (vR 100 0), some (vI x1), some (vI x2), none, some (vI x4), some (vI (iN c)), some (vI x6), some (vI x7), some (vI x8), none, some (vI (iN t))] [] Mt Q)
    (by
      rintro t Mt ht ⟨g1, g2⟩
      refine ⟨st Mt 113 0 t (iN (l.getD t 0)), ⟨fun i hi => ?_, k3_trans g2 (k3_st ⟨rfl, rfl⟩)⟩, fun Q hQ => w243_203 ⟨fun z => absurd ((iN_le (by omega) (by omega)).mp z) (by omega), fun _ => ⟨inb_of (by omega) (by decide), inb_of (by omega) (by decide), ?_⟩⟩⟩
      · by_cases hit : i = t
        · subst hit
          rw [st_at]
        · rw [st_ne3 (fun z => hit z.2.2)]
          exact g1 i (by omega)
      · rw [ix_of (by omega), g2 111 0 t (by omega), hb.2.2 t _ (getD_of (by omega)), iN_step]
        rintro M1 rfl
        exact hQ)
    ⟨fun i hi => absurd hi (by omega), k3_refl⟩
  exact ⟨M2, i1, i2, fun Q hQ => hV Q (w243_203 ⟨fun _ => hQ, fun z => absurd ((iN_le (by omega) (by omega)).mpr (Nat.le_refl _)) z⟩)⟩
/-- the class's row of the best order -/
def rwI (fs : Nat → Nat) (l : List Nat) : Int32 := if l = [] then 0 else iN (rowF 1 (l.map fs))
theorem op119 {X : Cx} {d : Nat} {M : Mem} {B lc : Nat} {u v q t : Int32} {L : Lw} (hw : WldL B M lc) (hLC : LawC M 0 L) (hLM : LawM (M.1 101 0) L) (hLT : LawT L) (h3 : M.1 11 1 3 = 1) (hb1 : M.1 30 1 0 = 0) : ∃ (x : Int32) (M1 M2 : Mem), CC X (d + 8) 119 [vR 2 0, vI u, vI v, vI q, vI t] M (some (vI x)) M1 ∧ CC X (d + 8) 243 [vR 100 0, vI u, vI v, vI q, vI t] M1 (some (vI x)) M2 ∧ K3 (fun c a j => ThC c a j ∨ OrR c a j) M M2 := by
  have hT := hw.1
  obtain ⟨n5, n6, n7, vm, vc⟩ := VT_n hw.2.1 hT
  obtain ⟨c5, c6, c7, q5, q6, q7⟩ := vt_c vc
  obtain ⟨m5, m6, m7, -⟩ := vt_m vm
  have cp := c57 (X := X) (d := d + 6) (M := M) (a := 0) (v := u)
  rw [c7] at cp
  have cd := c56 (X := X) (d := d + 6) (M := M) (a := 0) (v := v)
  rw [c6] at cd
  have rp (M1 : Mem) (g : M1.1 101 0 = M.1 101 0) := c157 (X := X) (d := d + 5) (M := M1) (v := u) (show M1.1 101 0 231 = iN n7 by rw [g]; exact m7) q7
  have rd (M1 : Mem) (g : M1.1 101 0 = M.1 101 0) := c156 (X := X) (d := d + 5) (M := M1) (v := v) (show M1.1 101 0 230 = iN n6 by rw [g]; exact m6) q6
  have i229 : inb 229 2129 := inb_l (by decide) (by decide)
  have x229 : ix 229 = 229 := ix_l (by decide)
  have hp2 : 2 ^ n5 ≤ 1024 := Nat.le_trans (Nat.pow_le_pow_right (by decide) q5) (by decide)
  have hp1 : 1 ≤ 2 ^ n5 := Nat.pow_pos (by decide)
  have esh := sh_t n5 q5
  have esub : iN (2 ^ n5) - 1 = iN (2 ^ n5 - 1) := iN_sub (b := 1) hp1
  have rr (M1 : Mem) := c151 (X := X) (d := d + 6) (M := M1) (v := q) (lo := 1) (hi := iN (2 ^ n5 - 1))
  by_cases hu : has u (iN n7) 12 = false
  · rw [hu] at cp rp
    refine ⟨-1, M, M, e119 (w119_0 ⟨_, _, c274, _, _, cp, ?_⟩), e243 (w243_0 ⟨_, _, rp M rfl, ?_⟩), k3_refl⟩
    · simp only [forall_eq, true_implies, false_implies, not_true_eq_false, not_false_eq_true, and_true, true_and, and_self, isB0, isB1, bI_t0, bI_f0, i10_, i20_, i01_, i02_, i12_, i21_]
    · simp only [forall_eq, true_implies, false_implies, not_true_eq_false, not_false_eq_true, and_true, true_and, and_self, isB0, isB1, bI_t0, bI_f0, i10_, i20_, i01_, i02_, i12_, i21_]
  have hu : has u (iN n7) 12 = true := by simpa using hu
  rw [hu] at cp rp
  by_cases hv : has v (iN n6) 8 = false
  · rw [hv] at cd rd
    refine ⟨-1, M, M, e119 (w119_0 ⟨_, _, c274, _, _, cp, ?_⟩), e243 (w243_0 ⟨_, _, rp M rfl, ?_⟩), k3_refl⟩
    · simp only [forall_eq, true_implies, false_implies, not_true_eq_false, not_false_eq_true, and_true, true_and, and_self, isB0, isB1, bI_t0, bI_f0, i10_, i20_, i01_, i02_, i12_, i21_]
      refine ⟨_, _, cd, ?_⟩
      simp only [forall_eq, true_implies, false_implies, not_true_eq_false, not_false_eq_true, and_true, true_and, and_self, isB0, isB1, bI_t0, bI_f0, i10_, i20_, i01_, i02_, i12_, i21_]
    · simp only [forall_eq, true_implies, false_implies, not_true_eq_false, not_false_eq_true, and_true, true_and, and_self, isB0, isB1, bI_t0, bI_f0, i10_, i20_, i01_, i02_, i12_, i21_]
      refine ⟨_, _, rd M rfl, ?_⟩
      simp only [forall_eq, true_implies, false_implies, not_true_eq_false, not_false_eq_true, and_true, true_and, and_self, isB0, isB1, bI_t0, bI_f0, i10_, i20_, i01_, i02_, i12_, i21_]
  have hv : has v (iN n6) 8 = true := by simpa using hv
  rw [hv] at cd rd
  obtain ⟨p, rfl, hp7⟩ := has_lt (k := 12) q7 (by decide) hu
  obtain ⟨e, rfl, he6⟩ := has_lt (k := 8) q6 (by decide) hv
  by_cases hr : inR q 1 (iN (2 ^ n5 - 1)) = false
  · rw [hr] at rr
    refine ⟨-1, M, M, e119 (w119_0 ⟨_, _, c274, _, _, cp, ?_⟩), e243 (w243_0 ⟨_, _, rp M rfl, ?_⟩), k3_refl⟩
    · simp only [forall_eq, true_implies, false_implies, not_true_eq_false, not_false_eq_true, and_true, true_and, and_self, isB0, isB1, bI_t0, bI_f0, i10_, i20_, i01_, i02_, i12_, i21_]
      refine ⟨_, _, cd, ?_⟩
      by_cases h0 : q ≤ 0
      · simp only [forall_eq, true_implies, false_implies, not_true_eq_false, not_false_eq_true, and_true, true_and, and_self, isB0, isB1, bI_t0, bI_f0, i10_, i20_, i01_, i02_, i12_, i21_, h0]
      · by_cases h1 : iN (2 ^ n5) ≤ q
        · simp only [forall_eq, true_implies, false_implies, not_true_eq_false, not_false_eq_true, and_true, true_and, and_self, isB0, isB1, bI_t0, bI_f0, i10_, i20_, i01_, i02_, i12_, i21_, c5, esh, h0, h1]
        · exfalso
          have hq0 : 0 ≤ q := Int32.le_of_lt (Int32.not_le.mp h0)
          obtain ⟨F, rfl, hFF, -⟩ := iN_of hq0
          have f1 : 1 ≤ F := by
            have : ¬ F ≤ 0 := fun y => h0 ((iN_le (b := 0) (by omega) (by decide)).mpr y)
            omega
          have f2 : F < 2 ^ n5 := Nat.not_le.mp (fun y => h1 ((iN_le (by omega) (by omega)).mpr y))
          rw [show inR (iN F) 1 (iN (2 ^ n5 - 1)) = true from inR_of (lo := 1) f1 (by omega) (by omega)] at hr
          cases hr
    · simp only [forall_eq, true_implies, false_implies, not_true_eq_false, not_false_eq_true, and_true, true_and, and_self, isB0, isB1, bI_t0, bI_f0, i10_, i20_, i01_, i02_, i12_, i21_]
      refine ⟨_, _, rd M rfl, ?_⟩
      simp only [forall_eq, true_implies, false_implies, not_true_eq_false, not_false_eq_true, and_true, true_and, and_self, isB0, isB1, bI_t0, bI_f0, i10_, i20_, i01_, i02_, i12_, i21_, i229, x229, m5, esh, esub]
      exact ⟨_, _, rr M, fun z => absurd rfl z, fun _ => rfl⟩
  have hr : inR q 1 (iN (2 ^ n5 - 1)) = true := by simpa using hr
  rw [hr] at rr
  obtain ⟨F, rfl, hF1, hF2⟩ : ∃ F : Nat, q = iN F ∧ 1 ≤ F ∧ F < 2 ^ n5 := by
    simp only [inR, Bool.and_eq_true, decide_eq_true_eq] at hr
    obtain ⟨F, rfl, hFF, -⟩ := iN_of (Int32.le_trans (by decide) hr.1)
    exact ⟨F, rfl, (iN_le (a := 1) (by decide) hFF).mp hr.1, by have := (iN_le hFF (by omega)).mp hr.2; omega⟩
  have hFF : F < 1024 := by omega
  have z1 : (iN F ≤ 0) = False := nle_ (b := 0) (by omega) (by decide) (by omega)
  have z2 : (iN (2 ^ n5) ≤ iN F) = False := nle_ (by omega) (by omega) hF2
  -- bits beyond the fields
  have hbits : cnK F n5 = cnK F 10 ∧ bsL F n5 = bsL F 10 := by
    have key : ∀ s, n5 + s ≤ 10 → cnK F (n5 + s) = cnK F n5 ∧ bsL F (n5 + s) = bsL F n5 := by
      intro s
      induction s with
      | zero => intro _; exact ⟨rfl, rfl⟩
      | succ s ih =>
        intro hs
        have h0 : Nat.testBit F (n5 + s) = false := Nat.testBit_lt_two_pow (Nat.lt_of_lt_of_le hF2 (Nat.pow_le_pow_right (by decide) (by omega)))
        have i1 := ih (by omega)
        show (if Nat.testBit F (n5 + s) = true then cnK F (n5 + s) + 1 else cnK F (n5 + s)) = cnK F n5 ∧ (if Nat.testBit F (n5 + s) = true then bsL F (n5 + s) ++ [n5 + s] else bsL F (n5 + s)) = bsL F n5
        rw [if_neg (by rw [h0]; decide), if_neg (by rw [h0]; decide)]
        exact i1
    have := key (10 - n5) (by omega)
    rw [show n5 + (10 - n5) = 10 by omega] at this
    exact ⟨this.1.symm, this.2.symm⟩
  have hc10 := cnK_le (k := F) (n := 10)
  obtain ⟨c, hc⟩ : ∃ c, c = cnK F 10 := ⟨_, rfl⟩
  have cbc := c274 (X := X) (d := d + 6) (M := M) (v := iN F)
  rw [bc_t F hFF, ← hc] at cbc
  have hc1 : 1 ≤ c := by
    rw [hc]
    by_cases h0 : cnK F 10 = 0
    · exfalso
      have : ∀ F : Nat, F < 1024 → 1 ≤ F → cnK F 10 ≠ 0 := by decide +kernel
      exact this F hFF hF1 h0
    · omega
  -- the reference's list of bits
  obtain ⟨N0, b1, b2, b3⟩ := c243_bits (X := X) (d := d + 7) (n := n5) (F := F) (x1 := iN p) (x2 := iN e) (x4 := t) q5 hFF n5 0 M (by omega) (by show (0 : Nat) ≤ 5; omega) m5 (fun i f hi => by simp [bsL] at hi)
  by_cases h5 : ¬ c ≤ 5
  · rw [hbits.1, ← hc] at b3
    simp only [if_neg h5] at b3
    have kM : K3 (fun c a j => ThC c a j ∨ OrR c a j) M N0 := k3_sub b1 (fun c a j z => Or.inr (Or.inr ⟨Or.inl z.1, z.2⟩))
    refine ⟨-1, M, N0, e119 (w119_0 ⟨_, _, cbc, _, _, cp, ?_⟩), e243 (w243_0 ⟨_, _, rp M rfl, ?_⟩), kM⟩
    · simp only [forall_eq, true_implies, false_implies, not_true_eq_false, not_false_eq_true, and_true, true_and, and_self, isB0, isB1, bI_t0, bI_f0, i10_, i20_, i01_, i02_, i12_, i21_]
      refine ⟨_, _, cd, ?_⟩
      simp only [forall_eq, true_implies, false_implies, not_true_eq_false, not_false_eq_true, and_true, true_and, and_self, isB0, isB1, bI_t0, bI_f0, i10_, i20_, i01_, i02_, i12_, i21_, c5, esh, z1, z2, show (5 < iN c) = True from ylt_ (a := 5) (by decide) (by omega) (by omega)]
    · simp only [forall_eq, true_implies, false_implies, not_true_eq_false, not_false_eq_true, and_true, true_and, and_self, isB0, isB1, bI_t0, bI_f0, i10_, i20_, i01_, i02_, i12_, i21_]
      refine ⟨_, _, rd M rfl, ?_⟩
      simp only [forall_eq, true_implies, false_implies, not_true_eq_false, not_false_eq_true, and_true, true_and, and_self, isB0, isB1, bI_t0, bI_f0, i10_, i20_, i01_, i02_, i12_, i21_, i229, x229, m5, esh, esub]
      exact ⟨_, _, rr M, fun _ => b3 _ ⟨rfl, rfl⟩, fun z => absurd z (by decide)⟩
  have h5 : c ≤ 5 := Classical.not_not.mp h5
  -- what is asked
  have z3 : (5 < iN c) = False := nlt_ (a := 5) (by decide) (by omega) h5
  have e9 : 9 + iN c = iN (9 + c) := by simp only [iN_lit, iN_add]
  have cw := c146 (X := X) (d := d + 6) (M := M) (v := t) (lo := 10) (hi := 9 + iN c)
  rw [e9] at cw
  have rw' (M1 : Mem) := c151 (X := X) (d := d + 6) (M := M1) (v := t) (lo := 10) (hi := iN (9 + c))
  have rfc := c121 (X := X) (d := d + 6) (M := M) (n := c) h5
  have hfc := fcN_le c h5
  have hfp := fcN_pos c
  have hpb := pow_b h5
  rw [hbits.1, ← hc] at b3
  simp only [if_pos h5] at b3
  have b2' := b2 (by rw [hbits.1, ← hc]; exact h5)
  rw [hbits.2] at b2'
  -- the fields
  have hlen : (bsL F 10).length = c := by rw [bsL_len, hc]
  obtain ⟨fs, hfs⟩ : ∃ fs : Nat → Nat, fs = fun i => (bsL F 10).getD i 0 := ⟨_, rfl⟩
  have hmap : (List.range c).map fs = bsL F 10 := by rw [hfs, ← hlen]; exact range_getD _
  have hfs5 : ∀ i, i < c → fs i < n5 ∧ fs i < 10 := fun i hi => by
    have := bsL_mem (getD_mem (l := bsL F 10) (i := i) (by omega))
    rw [hfs]
    refine ⟨Nat.not_le.mp fun y => ?_, this.1⟩
    have h0 : Nat.testBit F ((bsL F 10).getD i 0) = false := Nat.testBit_lt_two_pow (Nat.lt_of_lt_of_le hF2 (Nat.pow_le_pow_right (by decide) y))
    rw [this.2] at h0
    cases h0
  have hmem : ∀ l : List Nat, (∀ x, x ∈ l → x < c) → ∀ f, f ∈ l.map fs → f < n5 ∧ f < 10 := fun l hl f hf => by
    obtain ⟨x, hx, rfl⟩ := List.mem_map.mp hf
    exact hfs5 x (hl x hx)
  have ordm : ∀ r, r < fcN c → ∀ x, x ∈ ordL c (List.range c) r → x < c := fun r hr x hx => List.mem_range.mp (ordL_mem c (List.range c) r (List.length_range) hr x hx)
  obtain ⟨ev, hev⟩ : ∃ ev : List Nat → Int32, ev = fun l => (visitS L (TM M) n6 p (l.map fs) e false).2.1 := ⟨_, rfl⟩
  have evn : ∀ l : List Nat, (∀ x, x ∈ l → x < c) → (0 : Int32) ≤ ev l := fun l hl => by
    obtain ⟨s, s1, s2⟩ := visit_nn (L := L) (real := false) vm hp7 he6 (fs := l.map fs) (fun f hf => (hmem l hl f hf).1)
    rw [hev]
    show (0 : Int32) ≤ (visitS L (TM M) n6 p (l.map fs) e false).2.1
    rw [s2]
    exact iN_nn (by omega)
  -- the class's loop
  obtain ⟨C1, i1, hV⟩ := for_fwd (n := fcN c) (M := M)
    (I := fun r Mr => K3 ThC M Mr)
    (St := fun r Mr Q => V X (d + 8) 119 89 [some (vR 2 0), some (vI (iN p)), some (vI (iN e)), some (vI (iN F)), some (vI t), none, some (vI (iN (fcN c))), some (vI (hF ev (ordL c (List.range c)) r).1), some (vI (rwI fs (hF ev (ordL c (List.range c)) r).2)), some (vI (iN r)), none, none] [] Mr Q)
    (by
      rintro r Mr hr g
      have eo : ordL c (bsL F 10) r = (ordL c (List.range c) r).map fs := by
        rw [← hmap]
        exact ordL_map c (List.range c) r List.length_range hr
      have cr := c120 (X := X) (d := d + 5) (M := Mr) (F := F) (c := c) (p := r) hFF hc.symm h5 hr
      rw [eo] at cr
      have hdl : ((ordL c (List.range c) r).map fs).length = c := by rw [List.length_map, ordL_len]
      have hdg : ∀ f, f ∈ (ordL c (List.range c) r).map fs → f < n5 ∧ f < 10 := hmem _ (ordm r hr)
      have hin := rowF_in (ds := (ordL c (List.range c) r).map fs) (fun f hf => (hdg f hf).2)
      have hds := rowF_digs (ds := (ordL c (List.range c) r).map fs) (R := 1) (fun f hf => (hdg f hf).2)
      rw [hdl] at hin hds
      obtain ⟨C0, x1, x2, x3⟩ := c54 (X := X) (d := d + 6) (M := Mr) (a := 1) (b := 0) (by decide)
      have e0 : TC Mr 0 = TM M := (TC_k g (fun c j h1 h2 => by simp only [ThC]; omega)).trans hT
      rw [e0] at x2
      have k0 : K3 ThC M C0 := k3_trans g (c54_th x3)
      obtain ⟨C1, y1, y2, y3, y4⟩ := c90_th (X := X) (d := d + 1) (M := C0) (p := p) (e := e) (R := rowF 1 ((ordL c (List.range c) r).map fs)) (k := c) (hLC.kw (a := 0) k0 ThC_l) hLT (by rw [x2]; exact vm) hp7 he6 hc1 (by omega) hin.1 hin.2 (by rw [hds]; exact fun f hf => (hdg f hf).1) (by rw [k0 11 1 3 (by simp [ThC])]; exact h3) (by rw [k0 30 1 0 (by simp [ThC])]; exact hb1)
      rw [x2, hds] at y1
      have ee : (visitS L (TM M) n6 p ((ordL c (List.range c) r).map fs) e false).2.1 = ev (ordL c (List.range c) r) := by rw [hev]
      rw [ee] at y1
      refine ⟨C1, k3_trans k0 y4, fun Q hQ => w119_89 ⟨fun z => absurd ((iN_le (by omega) (by omega)).mp z) (by omega), fun _ => ⟨_, _, cr, _, x1, _, _, y1, fun z => ?_, fun z => ?_⟩⟩⟩
      · have es : hF ev (ordL c (List.range c)) (r + 1) = hF ev (ordL c (List.range c)) r := if_pos z
        rw [es] at hQ
        rw [iN_step]
        exact hQ
      · have es : hF ev (ordL c (List.range c)) (r + 1) = (ev (ordL c (List.range c) r), ordL c (List.range c) r) := if_neg z
        rw [es] at hQ
        have er : rwI fs (ordL c (List.range c) r) = iN (rowF 1 ((ordL c (List.range c) r).map fs)) := if_neg (fun y => by
          have := ordL_len c (List.range c) r
          rw [y] at this
          simp at this
          omega)
        have hQ : V X (d + 8) 119 89 [some (vR 2 0), some (vI (iN p)), some (vI (iN e)), some (vI (iN F)), some (vI t), none, some (vI (iN (fcN c))), some (vI (ev (ordL c (List.range c) r))), some (vI (rwI fs (ordL c (List.range c) r))), some (vI (iN (r + 1))), none, none] [] C1 Q := hQ
        rw [er] at hQ
        rw [iN_step]
        exact hQ)
    k3_refl
  -- the reference's loop
  have wC : C1.1 101 0 = M.1 101 0 := k3_col i1 (fun _ => by simp [ThC])
  obtain ⟨N1, b1c, b2c, b3c⟩ := c243_bits (X := X) (d := d + 7) (n := n5) (F := F) (x1 := iN p) (x2 := iN e) (x4 := t) q5 hFF n5 0 C1 (by omega) (by show (0 : Nat) ≤ 5; omega) (by rw [wC]; exact m5) (fun i f hi => by simp [bsL] at hi)
  rw [hbits.1, ← hc] at b3c
  simp only [if_pos h5] at b3c
  have b2d := b2c (by rw [hbits.1, ← hc]; exact h5)
  rw [hbits.2] at b2d
  have wN1 : N1.1 101 0 = M.1 101 0 := by rw [k3_col b1c (fun _ => by omega), wC]
  obtain ⟨R1, ⟨j1, j2⟩, hW⟩ := for_fwd (n := c ^ c) (M := N1)
    (I := fun k Mk => K3 OrR N1 Mk ∧ (∀ i, i < c → Mk.1 112 0 i = iN (fs i)) ∧ ((gF ev c k).2 = [] ∨ ∀ i, i < c → Mk.1 113 0 i = iN (fs ((gF ev c k).2.getD i 0))))
    (St := fun k Mk Q => V X (d + 8) 243 149 [some (vR 100 0), some (vI (iN p)), some (vI (iN e)), none, some (vI t), some (vI (iN c)), some (vI (iN (c ^ c))), some (vI (gF ev c k).1), some (vI (iN k)), none, none] [] Mk Q)
    (by
      rintro k Mk hk ⟨g1, g2, g3⟩
      obtain ⟨A1, a1, a2, a3⟩ := c242 (X := X) (d := d + 6) (M := Mk) (c := c) (k := k) (fs := fs) hc1 h5 hk g2
      have kA : K3 OrR N1 A1 := k3_trans g1 (k3_sub a3 (fun c a j z => Or.inl (by simp only [Wb] at z; simp only [ThR]; omega)))
      have wA : A1.1 101 0 = M.1 101 0 := by rw [k3_col kA (fun _ => by simp [OrR, ThR]), wN1]
      have TA : TM A1 = TM M := by
        show TW (A1.1 101 0) = TW (M.1 101 0)
        rw [wA]
      have hnot : ¬ iN (c ^ c) ≤ iN k := fun z => absurd ((iN_le (by omega) (by omega)).mp z) (by omega)
      by_cases hok : okD c k = true
      · rw [hok] at a1
        obtain ⟨R0, z1, z2, z3, z4⟩ := c236 (X := X) (d := d + 6) (M := A1)
        have wR0 : R0.1 101 0 = M.1 101 0 := by rw [k3_col z4 (fun _ => by omega), wA]
        have TR0 : TM R0 = TM M := by
          show TW (R0.1 101 0) = TW (M.1 101 0)
          rw [wR0]
        have dgm : ∀ x, x ∈ dgL c k → x < c := fun x hx => by
          obtain ⟨i, -, rfl⟩ := List.mem_map.mp hx
          exact Nat.mod_lt _ (by omega)
        have hdf : ∀ f, f ∈ (dgL c k).map fs → f < n5 := fun f hf => (hmem _ dgm f hf).1
        obtain ⟨R1, s1, s2, s3, s4, s5, s6, s7, s8⟩ := c216_th (X := X) (d := d) (M := R0) (p := p) (e := e) (L := L) (fs := (dgL c k).map fs) (lc := lc) (by rw [wR0]; exact hLM) hLT (by rw [TR0]; exact vm) hp7 he6 z3 ⟨a2.1, by rw [z4 100 0 28 (by omega)]; exact a2.2.1, fun j f hj => by rw [z4 111 0 j (by omega)]; exact a2.2.2 j f hj⟩ hdf hw.2.2.2.1 (by rw [wR0]; exact hw.2.2.2.2.2.1)
        rw [TR0] at s1
        have ee : (visitS L (TM M) n6 p ((dgL c k).map fs) e false).2.1 = ev (dgL c k) := by rw [hev]
        rw [ee] at s1
        obtain ⟨R2, t1, t2, t3⟩ := c237 (X := X) (d := d + 6) (M := R1)
        have kR : K3 ThR A1 R2 := th_back z2 z4 s8 (fun k hk => by rw [s7]) t2 t3
        have by2 : ByR R2 ((dgL c k).map fs) := ⟨s6.1, by rw [t3 100 0 28 (by omega)]; exact s6.2.1, fun j f hj => by rw [t3 111 0 j (by omega)]; exact s6.2.2 j f hj⟩
        have kR2 : K3 OrR N1 R2 := k3_trans kA (k3_sub kR (fun c a j z => Or.inl z))
        have g2R : ∀ i, i < c → R2.1 112 0 i = iN (fs i) := fun i hi => by rw [kR 112 0 i (by simp [ThR]), a3 112 0 i (by simp [Wb])]; exact g2 i hi
        by_cases hle : ev (dgL c k) ≤ (gF ev c k).1
        · have es : gF ev c (k + 1) = gF ev c k := (if_pos hok).trans (if_pos hle)
          rw [es]
          refine ⟨R2, ⟨kR2, g2R, g3.imp id (fun h i hi => by rw [kR 113 0 i (by simp [ThR]), a3 113 0 i (by simp [Wb])]; exact h i hi)⟩, fun Q hQ => w243_149 ⟨fun z => absurd z hnot, fun _ => ⟨_, _, a1, fun _ => ⟨_, z1, _, _, s1, _, t1, fun z => absurd hle (Int32.not_le.mpr z), fun _ => by rw [iN_step]; exact hQ⟩, fun z => absurd z (by decide)⟩⟩⟩
        · have es : gF ev c (k + 1) = (ev (dgL c k), dgL c k) := (if_pos hok).trans (if_neg hle)
          rw [es]
          have hdl : ((dgL c k).map fs).length = c := by simp [dgL]
          obtain ⟨R3, v1, v2, v3⟩ := c243_copy (X := X) (d := d + 7) (M := R2) (l := (dgL c k).map fs) (x1 := iN p) (x2 := iN e) (x4 := t) (x6 := iN (c ^ c)) (x7 := ev (dgL c k)) (x8 := iN k) hdl h5 by2
          refine ⟨R3, ⟨k3_trans kR2 (k3_sub v2 (fun c a j z => Or.inr ⟨Or.inr z.1, z.2⟩)), fun i hi => by rw [v2 112 0 i (by omega)]; exact g2R i hi, Or.inr (fun i hi => ?_)⟩, fun Q hQ => w243_149 ⟨fun z => absurd z hnot, fun _ => ⟨_, _, a1, fun _ => ⟨_, z1, _, _, s1, _, t1, fun _ => v3 Q (by rw [iN_step]; exact hQ), fun z => absurd (Int32.not_le.mp hle) z⟩, fun z => absurd z (by decide)⟩⟩⟩
          rw [v1 i hi]
          show _ = iN (fs ((dgL c k).getD i 0))
          rw [getD_map (by simp [dgL]; exact hi)]
      · have hok0 : okD c k = false := by simpa using hok
        rw [hok0] at a1
        have es : gF ev c (k + 1) = gF ev c k := if_neg hok
        rw [es]
        refine ⟨A1, ⟨kA, fun i hi => by rw [a3 112 0 i (by simp [Wb])]; exact g2 i hi, g3.imp id (fun h i hi => by rw [a3 113 0 i (by simp [Wb])]; exact h i hi)⟩, fun Q hQ => w243_149 ⟨fun z => absurd z hnot, fun _ => ⟨_, _, a1, fun z => absurd rfl z, fun _ => by rw [iN_step]; exact hQ⟩⟩⟩)
    ⟨k3_refl, fun i hi => by
      have := b2d i (fs i) (by rw [hfs]; exact getD_of (by omega))
      exact this, Or.inl rfl⟩
  have hGF := hF_gF (ev := ev) hc1 h5
  obtain ⟨pB, pB1, pB2, -⟩ : ∃ r, r < fcN c ∧ (hF ev (ordL c (List.range c)) (fcN c)).2 = ordL c (List.range c) r ∧ (0 : Int32) ≤ (hF ev (ordL c (List.range c)) (fcN c)).1 := by
    rcases hF_len (ev := ev) (c := c) (fun l hl => by
      obtain ⟨r, hr, rfl⟩ := List.mem_map.mp hl
      exact evn _ (ordm r (List.mem_range.mp hr))) (fcN c) (Nat.le_refl _) with ⟨h0, -⟩ | h
    · omega
    · exact h
  rw [← hGF] at j2
  obtain ⟨lb, hlb⟩ : ∃ lb, lb = ordL c (List.range c) pB := ⟨_, rfl⟩
  rw [← hlb] at pB2
  have hlbl : lb.length = c := by rw [hlb]; exact ordL_len ..
  have hlbm : ∀ x, x ∈ lb → x < c := by rw [hlb]; exact ordm pB pB1
  have j3 : ∀ i, i < c → R1.1 113 0 i = iN (fs (lb.getD i 0)) := by
    rcases j2.2 with h | h
    · rw [pB2] at h
      rw [h] at hlbl
      simp at hlbl
      omega
    · rw [pB2] at h
      exact h
  have kfin : K3 (fun c a j => ThC c a j ∨ OrR c a j) M R1 := k3_trans (k3_trans (k3_sub i1 (fun c a j z => Or.inl z)) (k3_sub b1c (fun c a j z => Or.inr (Or.inr ⟨Or.inl z.1, z.2⟩)))) (k3_sub j1 (fun c a j z => Or.inr z))
  have erow : rwI fs lb = iN (rowF 1 (lb.map fs)) := if_neg (fun y => by rw [y] at hlbl; simp at hlbl; omega)
  have hdg : ∀ f, f ∈ lb.map fs → f < n5 ∧ f < 10 := hmem _ hlbm
  have hin := rowF_in (ds := lb.map fs) (fun f hf => (hdg f hf).2)
  have hds := rowF_digs (ds := lb.map fs) (R := 1) (fun f hf => (hdg f hf).2)
  rw [List.length_map, hlbl] at hin hds
  -- the product of the reference
  have hprod : ∀ Q : Option Vl → Mem → Prop, V X (d + 8) 243 149 [some (vR 100 0), some (vI (iN p)), some (vI (iN e)), none, some (vI t), some (vI (iN c)), some (vI (iN (c ^ c))), some (vI (-1)), some (vI 0), none, none] [] N1 Q → V X (d + 8) 243 123 [some (vR 100 0), some (vI (iN p)), some (vI (iN e)), none, some (vI t), some (vI (iN c)), some (vI 1), some (vI 0), none, none, none] [] N1 Q := by
    intro Q hQ
    refine for_up (P := fun j => V X (d + 8) 243 123 [some (vR 100 0), some (vI (iN p)), some (vI (iN e)), none, some (vI t), some (vI (iN c)), some (vI (iN (c ^ j))), some (vI (iN j)), none, none, none] [] N1 Q) (n := c) (fun j hj hP => w243_123 ⟨fun z => absurd ((iN_le (by omega) (by omega)).mp z) (by omega), fun _ => ?_⟩) (w243_123 ⟨fun _ => hQ, fun z => absurd ((iN_le (by omega) (by omega)).mpr (Nat.le_refl _)) z⟩)
    rw [iN_mul, iN_step, ← Nat.pow_succ]
    exact hP
  by_cases ht0 : t = 0
  · subst ht0
    refine ⟨(hF ev (ordL c (List.range c)) (fcN c)).1, C1, R1, e119 (w119_0 ⟨_, _, cbc, _, _, cp, ?_⟩), e243 (w243_0 ⟨_, _, rp C1 wC, ?_⟩), kfin⟩
    · simp only [forall_eq, true_implies, false_implies, not_true_eq_false, not_false_eq_true, and_true, true_and, and_self, isB0, isB1, bI_t0, bI_f0, i10_, i20_, i01_, i02_, i12_, i21_]
      refine ⟨_, _, cd, ?_⟩
      simp only [forall_eq, true_implies, false_implies, not_true_eq_false, not_false_eq_true, and_true, true_and, and_self, isB0, isB1, bI_t0, bI_f0, i10_, i20_, i01_, i02_, i12_, i21_, c5, esh, z1, z2, z3]
      refine ⟨_, _, rfc, hV _ (w119_89 ⟨fun _ => ⟨fun z => absurd rfl z, fun _ => ⟨rfl, rfl⟩⟩, fun z => absurd ((iN_le (by omega) (by omega)).mpr (Nat.le_refl _)) z⟩)⟩
    · simp only [forall_eq, true_implies, false_implies, not_true_eq_false, not_false_eq_true, and_true, true_and, and_self, isB0, isB1, bI_t0, bI_f0, i10_, i20_, i01_, i02_, i12_, i21_]
      refine ⟨_, _, rd C1 wC, ?_⟩
      simp only [forall_eq, true_implies, false_implies, not_true_eq_false, not_false_eq_true, and_true, true_and, and_self, isB0, isB1, bI_t0, bI_f0, i10_, i20_, i01_, i02_, i12_, i21_, i229, x229, wC, m5, esh, esub]
      refine ⟨_, _, rr C1, fun _ => b3c _ (w243_44 ?_), fun z => absurd z (by decide)⟩
      simp only [forall_eq, true_implies, false_implies, not_true_eq_false, not_false_eq_true, and_true, true_and, and_self, isB0, isB1, bI_t0, bI_f0, i10_, i20_, i01_, i02_, i12_, i21_, i229, x229, wN1, m5, yle_ (a := n5) (b := n5) (by omega) (by omega) (Nat.le_refl _)]
      refine hprod _ (hW _ (w243_149 ⟨fun _ => ⟨fun z => absurd rfl z, fun _ => ?_⟩, fun z => absurd ((iN_le (by omega) (by omega)).mpr (Nat.le_refl _)) z⟩))
      rw [← hGF]
      exact ⟨rfl, rfl⟩
  · by_cases htr : inR t 10 (iN (9 + c)) = true
    · rw [htr] at cw rw'
      obtain ⟨k, rfl, hk⟩ := inR_iN (hi := 9 + c) (by omega) (by
        simp only [inR, Bool.and_eq_true, decide_eq_true_eq] at htr ⊢
        exact ⟨Int32.le_trans (by decide) htr.1, htr.2⟩)
      have hk10 : 10 ≤ k := by
        simp only [inR, Bool.and_eq_true, decide_eq_true_eq] at htr
        exact (iN_le (a := 10) (by decide) (by omega)).mp htr.1
      have ek : iN k - 10 = iN (k - 10) := iN_sub (b := 10) hk10
      have c3 := c123 (X := X) (d := d + 5) (M := C1) (R := rowF 1 (lb.map fs)) (c := c) (i := k - 10) hc1 (by omega) hin.1 hin.2 (by omega)
      have edig : rowF 1 (lb.map fs) / 10 ^ (c - 1 - (k - 10)) % 10 = fs (lb.getD (k - 10) 0) := by
        have h1 : (digs (rowF 1 (lb.map fs)) c)[k - 10]? = some (fs (lb.getD (k - 10) 0)) := by
          rw [hds, List.getElem?_map, getD_of (by omega)]
          rfl
        exact (digs_get h1).2.symm
      rw [edig] at c3
      refine ⟨iN (fs (lb.getD (k - 10) 0)), C1, R1, e119 (w119_0 ⟨_, _, cbc, _, _, cp, ?_⟩), e243 (w243_0 ⟨_, _, rp C1 wC, ?_⟩), kfin⟩
      · simp only [forall_eq, true_implies, false_implies, not_true_eq_false, not_false_eq_true, and_true, true_and, and_self, isB0, isB1, bI_t0, bI_f0, i10_, i20_, i01_, i02_, i12_, i21_]
        refine ⟨_, _, cd, ?_⟩
        simp only [forall_eq, true_implies, false_implies, not_true_eq_false, not_false_eq_true, and_true, true_and, and_self, isB0, isB1, bI_t0, bI_f0, i10_, i20_, i01_, i02_, i12_, i21_, c5, esh, z1, z2, z3, ht0, e9]
        refine ⟨_, _, cw, ?_⟩
        simp only [forall_eq, true_implies, false_implies, not_true_eq_false, not_false_eq_true, and_true, true_and, and_self, isB0, isB1, bI_t0, bI_f0, i10_, i20_, i01_, i02_, i12_, i21_]
        refine ⟨_, _, rfc, hV _ (w119_89 ⟨fun _ => ⟨fun _ => ?_, fun z => absurd z ht0⟩, fun z => absurd ((iN_le (by omega) (by omega)).mpr (Nat.le_refl _)) z⟩)⟩
        rw [pB2, erow, ek]
        exact ⟨_, _, c3, rfl, rfl⟩
      · simp only [forall_eq, true_implies, false_implies, not_true_eq_false, not_false_eq_true, and_true, true_and, and_self, isB0, isB1, bI_t0, bI_f0, i10_, i20_, i01_, i02_, i12_, i21_]
        refine ⟨_, _, rd C1 wC, ?_⟩
        simp only [forall_eq, true_implies, false_implies, not_true_eq_false, not_false_eq_true, and_true, true_and, and_self, isB0, isB1, bI_t0, bI_f0, i10_, i20_, i01_, i02_, i12_, i21_, i229, x229, wC, m5, esh, esub]
        refine ⟨_, _, rr C1, fun _ => b3c _ (w243_44 ?_), fun z => absurd z (by decide)⟩
        simp only [forall_eq, true_implies, false_implies, not_true_eq_false, not_false_eq_true, and_true, true_and, and_self, isB0, isB1, bI_t0, bI_f0, i10_, i20_, i01_, i02_, i12_, i21_, i229, x229, wN1, m5, yle_ (a := n5) (b := n5) (by omega) (by omega) (Nat.le_refl _), ht0, e9]
        refine ⟨_, _, rw' N1, fun _ => hprod _ (hW _ (w243_149 ⟨fun _ => ⟨fun _ => ?_, fun z => absurd z ht0⟩, fun z => absurd ((iN_le (by omega) (by omega)).mpr (Nat.le_refl _)) z⟩)), fun z => absurd z (by decide)⟩
        rw [ek, ix_of (by omega), j3 _ (by omega)]
        exact ⟨inb_of (by omega) (by decide), rfl, rfl⟩
    · have htr : inR t 10 (iN (9 + c)) = false := by simpa using htr
      rw [htr] at cw rw'
      have kM : K3 (fun c a j => ThC c a j ∨ OrR c a j) M N0 := k3_sub b1 (fun c a j z => Or.inr (Or.inr ⟨Or.inl z.1, z.2⟩))
      have wN0 : N0.1 101 0 = M.1 101 0 := k3_col b1 (fun _ => by omega)
      refine ⟨-1, M, N0, e119 (w119_0 ⟨_, _, cbc, _, _, cp, ?_⟩), e243 (w243_0 ⟨_, _, rp M rfl, ?_⟩), kM⟩
      · simp only [forall_eq, true_implies, false_implies, not_true_eq_false, not_false_eq_true, and_true, true_and, and_self, isB0, isB1, bI_t0, bI_f0, i10_, i20_, i01_, i02_, i12_, i21_]
        refine ⟨_, _, cd, ?_⟩
        simp only [forall_eq, true_implies, false_implies, not_true_eq_false, not_false_eq_true, and_true, true_and, and_self, isB0, isB1, bI_t0, bI_f0, i10_, i20_, i01_, i02_, i12_, i21_, c5, esh, z1, z2, z3, ht0, e9]
        refine ⟨_, _, cw, ?_⟩
        simp only [forall_eq, true_implies, false_implies, not_true_eq_false, not_false_eq_true, and_true, true_and, and_self, isB0, isB1, bI_t0, bI_f0, i10_, i20_, i01_, i02_, i12_, i21_]
      · simp only [forall_eq, true_implies, false_implies, not_true_eq_false, not_false_eq_true, and_true, true_and, and_self, isB0, isB1, bI_t0, bI_f0, i10_, i20_, i01_, i02_, i12_, i21_]
        refine ⟨_, _, rd M rfl, ?_⟩
        simp only [forall_eq, true_implies, false_implies, not_true_eq_false, not_false_eq_true, and_true, true_and, and_self, isB0, isB1, bI_t0, bI_f0, i10_, i20_, i01_, i02_, i12_, i21_, i229, x229, m5, esh, esub]
        refine ⟨_, _, rr M, fun _ => b3 _ (w243_44 ?_), fun z => absurd z (by decide)⟩
        simp only [forall_eq, true_implies, false_implies, not_true_eq_false, not_false_eq_true, and_true, true_and, and_self, isB0, isB1, bI_t0, bI_f0, i10_, i20_, i01_, i02_, i12_, i21_, i229, x229, wN0, m5, yle_ (a := n5) (b := n5) (by omega) (by omega) (Nat.le_refl _), ht0, e9]
        exact ⟨_, _, rw' N0, fun z => absurd rfl z, fun _ => rfl⟩
