/-! the reference's shortest way; span -/
/-- how near a door is in the end -/
def gD (k : Nat) (nr : Nat → Nat) (v : Nat) : Nat := if Nat.testBit k v = true then nr v else 100000000
def BfI (n : Nat) (f k : Nat) (nr rk : Nat → Nat) (r : Nat) (wt : Nat → Nat) : Prop := (∀ v, v < n → gD k nr v ≤ wt v ∧ wt v ≤ 100000000) ∧ wt f = 0 ∧ ∀ v, Nat.testBit k v = true → rk v ≤ r → wt v ≤ nr v
def BfD (n : Nat) (w : Nat → Nat → Nat) (k : Nat) (nr rk : Nat → Nat) (r c e : Nat) (wt : Nat → Nat) : Prop := ∀ u v, v < n → Nat.testBit k u = true → rk u ≤ r → 0 < w u v → (u < c ∨ (u = c ∧ v < e)) → wt v ≤ nr u + w u v
theorem lg_le {w : Nat → Nat → Nat} (hw : ∀ i j, w i j ≤ 99) {i j : Nat} : lg w i j ≤ 100000000 := by
  have := hw i j
  unfold lg
  split <;> omega
theorem gD_le {n f k : Nat} {w : Nat → Nat → Nat} {nr rk : Nat → Nat} (hD : DjI n w f k nr rk) {v : Nat} : gD k nr v ≤ 100000000 := by
  unfold gD
  split
  · rename_i h
    have := (hD.2.1 v h).2.1
    omega
  · omega
theorem bf_low {n f k c e : Nat} {w : Nat → Nat → Nat} {nr rk : Nat → Nat} (hn : n ≤ 8) (hw : ∀ i j, w i j ≤ 99) (hD : DjI n w f k nr rk) (hfin : ∀ v, v < n → Nat.testBit k v = false → nr v = 1000000) {x : Nat} (hc : c < n) (he : e < n) (hx : gD k nr c ≤ x) : gD k nr e ≤ x + lg w c e := by
  have h1 := gD_le hD (v := e)
  by_cases h0 : w c e = 0
  · have : lg w c e = 100000000 := if_pos h0
    omega
  · have hl : lg w c e = w c e := if_neg h0
    rw [hl]
    by_cases hk : Nat.testBit k c = true
    · have g : gD k nr c = nr c := if_pos hk
      have h2 := hD.2.2.2.2.1 c e he hk (by omega)
      have h3 := hD.2.2.2.1 c hc (hD.2.1 c hk).2.1
      have h4 := cnK_le (k := k) (n := n)
      have h5 := hw c e
      cases hb : Nat.testBit k e with
      | true =>
        have : gD k nr e = nr e := if_pos hb
        omega
      | false =>
        have := hfin e he hb
        omega
    · have g : gD k nr c = 100000000 := if_neg hk
      omega
theorem c264_in {X : Cx} {d n f k c r : Nat} {w : Nat → Nat → Nat} {nr rk : Nat → Nat} {x2 : Int32} (hn : n ≤ 8) (hf : f < n) (hc : c < n) (hw : ∀ i j, w i j ≤ 99) (hD : DjI n w f k nr rk) (hfin : ∀ v, v < n → Nat.testBit k v = false → nr v = 1000000) :
    ∀ (t e : Nat) (wt : Nat → Nat) (M : Mem), e + t = n → M.1 101 0 230 = iN n → WyM (M.1 101 0) w → (∀ v, v < 8 → M.1 117 0 v = iN (wt v)) → BfI n f k nr rk r wt → BfD n w k nr rk r c e wt →
    ∃ (wt' : Nat → Nat) (M' : Mem), (∀ v, v < 8 → M'.1 117 0 v = iN (wt' v)) ∧ BfI n f k nr rk r wt' ∧ BfD n w k nr rk r (c + 1) 0 wt' ∧ K3 (fun c a _ => c = 117 ∧ a = 0) M M' ∧ ∀ Q : Option Vl → Mem → Prop, V X (d + 2) 264 43 [some (vR 100 0), none, some (vI x2), some (vI (iN r)), some (vI (iN (c + 1))), none] [] M' Q → V X (d + 2) 264 59 [some (vR 100 0), none, some (vI x2), some (vI (iN r)), some (vI (iN c)), some (vI (iN e))] [] M Q
  | 0, e, wt, M, he, h230, hW, hM, hB, hDn => by
    have : e = n := he
    subst this
    refine ⟨wt, M, hM, hB, fun u v hv h1 h2 h3 h4 => hDn u v hv h1 h2 h3 (by omega), k3_refl, fun Q hQ => w264_59 ⟨inb_l (by decide) (by decide), fun _ => by rw [iN_step]; exact hQ, fun z => absurd ?_ z⟩⟩
    rw [show ix 230 = 230 from ix_l (by decide), h230]
    exact (iN_le (by omega) (by omega)).mpr (Nat.le_refl _)
  | t + 1, e, wt, M, he, h230, hW, hM, hB, hDn => by
    have x230 : M.1 101 0 (ix 230) = iN n := by rw [show ix 230 = 230 from ix_l (by decide)]; exact h230
    have hl := lg_le hw (i := c) (j := e)
    obtain ⟨b1, b2, b3⟩ := hB
    have bc := b1 c hc
    have be := b1 e (by omega)
    have low := bf_low hn hw hD hfin (c := c) (e := e) hc (by omega) bc.1
    have ne : ∀ v, (if v = e then min (wt e) (wt c + lg w c e) else wt v) ≤ wt v := fun v => by
      by_cases h : v = e
      · rw [if_pos h, h]; omega
      · rw [if_neg h]; omega
    obtain ⟨wt', M', q1, q2, q3, q4, q5⟩ := c264_in (X := X) (d := d) (r := r) (x2 := x2) hn hf hc hw hD hfin t (e + 1) (fun v => if v = e then min (wt e) (wt c + lg w c e) else wt v) (st M 117 0 e (iN (min (wt e) (wt c + lg w c e)))) (by omega) (by rw [st_ne3 (fun z => absurd z.1 (by decide))]; exact h230) (by rw [st_ne (fun z => absurd z.1 (by decide))]; exact hW) (fun v hv => by
      show _ = iN (if v = e then min (wt e) (wt c + lg w c e) else wt v)
      by_cases h : v = e
      · subst h
        rw [st_at, if_pos rfl]
      · rw [st_ne3 (fun z => h z.2.2), if_neg h]
        exact hM v hv) ⟨fun v hv => by
        show gD k nr v ≤ (if v = e then min (wt e) (wt c + lg w c e) else wt v) ∧ (if v = e then min (wt e) (wt c + lg w c e) else wt v) ≤ 100000000
        by_cases h : v = e
        · rw [if_pos h, h]
          omega
        · rw [if_neg h]
          exact b1 v hv, by
        show (if f = e then min (wt e) (wt c + lg w c e) else wt f) = 0
        have := ne f
        omega, fun v h1 h2 => Nat.le_trans (ne v) (b3 v h1 h2)⟩ (fun u v hv h1 h2 h3 h4 => by
        show (if v = e then min (wt e) (wt c + lg w c e) else wt v) ≤ nr u + w u v
        by_cases h : u = c ∧ v = e
        · rw [if_pos h.2, h.1, h.2]
          have e1 : lg w c e = w c e := if_neg (by rw [h.1, h.2] at h3; omega)
          have e2 := b3 c (by rw [← h.1]; exact h1) (by rw [← h.1]; exact h2)
          rw [e1]
          omega
        · have := hDn u v hv h1 h2 h3 (by omega)
          have := ne v
          omega)
    refine ⟨wt', M', q1, q2, q3, k3_trans (k3_st ⟨rfl, rfl⟩) q4, fun Q hQ => w264_59 ⟨inb_l (by decide) (by decide), fun z => absurd ((iN_le (by omega) (by omega)).mp (x230 ▸ z)) (by omega), fun _ => ⟨inb_of (by omega) (by decide), inb_of (by omega) (by decide), _, _, c262 hw hW (by omega) (by omega), ?_⟩⟩⟩
    rw [ix_of (show e < 2147483648 by omega), ix_of (show c < 2147483648 by omega), hM e (by omega), hM c (by omega), iN_add]
    refine ⟨_, _, c152, inb_of (by omega) (by decide), ?_⟩
    rw [lsr_n (by omega) (by omega), iN_step]
    rintro M3 rfl
    exact q5 Q hQ
theorem c264_mid {X : Cx} {d n f k r : Nat} {w : Nat → Nat → Nat} {nr rk : Nat → Nat} {x2 : Int32} (hn : n ≤ 8) (hf : f < n) (hw : ∀ i j, w i j ≤ 99) (hD : DjI n w f k nr rk) (hfin : ∀ v, v < n → Nat.testBit k v = false → nr v = 1000000) :
    ∀ (t c : Nat) (wt : Nat → Nat) (M : Mem), c + t = n → M.1 101 0 230 = iN n → WyM (M.1 101 0) w → (∀ v, v < 8 → M.1 117 0 v = iN (wt v)) → BfI n f k nr rk r wt → BfD n w k nr rk r c 0 wt →
    ∃ (wt' : Nat → Nat) (M' : Mem), (∀ v, v < 8 → M'.1 117 0 v = iN (wt' v)) ∧ BfI n f k nr rk (r + 1) wt' ∧ K3 (fun c a _ => c = 117 ∧ a = 0) M M' ∧ ∀ Q : Option Vl → Mem → Prop, V X (d + 2) 264 34 [some (vR 100 0), none, some (vI x2), some (vI (iN (r + 1))), none, none] [] M' Q → V X (d + 2) 264 43 [some (vR 100 0), none, some (vI x2), some (vI (iN r)), some (vI (iN c)), none] [] M Q
  | 0, c, wt, M, he, h230, hW, hM, hB, hDn => by
    have : c = n := he
    subst this
    refine ⟨wt, M, hM, ⟨hB.1, hB.2.1, fun v h1 h2 => ?_⟩, k3_refl, fun Q hQ => w264_43 ⟨inb_l (by decide) (by decide), fun _ => by rw [iN_step]; exact hQ, fun z => absurd ?_ z⟩⟩
    · have hv := hD.2.1 v h1
      by_cases hvf : v = f
      · rw [hvf, hB.2.1]
        exact Nat.zero_le _
      · obtain ⟨u, a1, a2, a3, a4⟩ := hD.2.2.2.2.2.2 v hv.1 hvf hv.2.1
        have := a4 h1
        rw [a3]
        exact hDn u v hv.1 a1 (by omega) a2 (Or.inl (hD.2.1 u a1).1)
    · rw [show ix 230 = 230 from ix_l (by decide), h230]
      exact (iN_le (by omega) (by omega)).mpr (Nat.le_refl _)
  | t + 1, c, wt, M, he, h230, hW, hM, hB, hDn => by
    have x230 : M.1 101 0 (ix 230) = iN n := by rw [show ix 230 = 230 from ix_l (by decide)]; exact h230
    obtain ⟨wt1, M1, q1, q2, q3, q4, q5⟩ := c264_in (X := X) (d := d) (r := r) (x2 := x2) hn hf (show c < n by omega) hw hD hfin n 0 wt M (by omega) h230 hW hM hB hDn
    obtain ⟨wt2, M2, r1, r2, r3, r4⟩ := c264_mid (X := X) (d := d) (r := r) (x2 := x2) hn hf hw hD hfin t (c + 1) wt1 M1 (by omega) (by rw [q4 101 0 230 (by omega)]; exact h230) (by rw [k3_col (c := 101) (a := 0) q4 (fun _ => by omega)]; exact hW) q1 q2 q3
    exact ⟨wt2, M2, r1, r2, k3_trans q4 r3, fun Q hQ => w264_43 ⟨inb_l (by decide) (by decide), fun z => absurd ((iN_le (by omega) (by omega)).mp (x230 ▸ z)) (by omega), fun _ => q5 Q (r4 Q hQ)⟩⟩
theorem c264_out {X : Cx} {d n f k : Nat} {w : Nat → Nat → Nat} {nr rk : Nat → Nat} {x2 : Int32} (hn : n ≤ 8) (hf : f < n) (hw : ∀ i j, w i j ≤ 99) (hD : DjI n w f k nr rk) (hfin : ∀ v, v < n → Nat.testBit k v = false → nr v = 1000000) :
    ∀ (t r : Nat) (wt : Nat → Nat) (M : Mem), r + t = 8 → M.1 101 0 230 = iN n → WyM (M.1 101 0) w → (∀ v, v < 8 → M.1 117 0 v = iN (wt v)) → BfI n f k nr rk r wt →
    ∃ (wt' : Nat → Nat) (M' : Mem), (∀ v, v < 8 → M'.1 117 0 v = iN (wt' v)) ∧ BfI n f k nr rk 8 wt' ∧ K3 (fun c a _ => c = 117 ∧ a = 0) M M' ∧ ∀ Q : Option Vl → Mem → Prop, V X (d + 2) 264 34 [some (vR 100 0), none, some (vI x2), some (vI (iN 8)), none, none] [] M' Q → V X (d + 2) 264 34 [some (vR 100 0), none, some (vI x2), some (vI (iN r)), none, none] [] M Q
  | 0, r, wt, M, he, h230, hW, hM, hB => by
    have : r = 8 := he
    subst this
    exact ⟨wt, M, hM, hB, k3_refl, fun Q hQ => hQ⟩
  | t + 1, r, wt, M, he, h230, hW, hM, hB => by
    obtain ⟨wt1, M1, q1, q2, q4, q5⟩ := c264_mid (X := X) (d := d) (r := r) (x2 := x2) hn hf hw hD hfin n 0 wt M (by omega) h230 hW hM hB (fun u v _ _ _ _ h => absurd h (by omega))
    obtain ⟨wt2, M2, r1, r2, r3, r4⟩ := c264_out (X := X) (d := d) (x2 := x2) hn hf hw hD hfin t (r + 1) wt1 M1 (by omega) (by rw [q4 101 0 230 (by omega)]; exact h230) (by rw [k3_col (c := 101) (a := 0) q4 (fun _ => by omega)]; exact hW) q1 q2
    exact ⟨wt2, M2, r1, r2, k3_trans q4 r3, fun Q hQ => w264_34 ⟨fun z => absurd ((iN_le (a := 8) (by decide) (by omega)).mp z) (by omega), fun _ => q5 Q (r4 Q hQ)⟩⟩
theorem c264 {X : Cx} {d : Nat} {M : Mem} {n f b k : Nat} {w : Nat → Nat → Nat} {nr rk : Nat → Nat} (hn : n ≤ 8) (hf : f < n) (hb : b < n) (hw : ∀ i j, w i j ≤ 99) (hD : DjI n w f k nr rk) (hfin : ∀ v, v < n → Nat.testBit k v = false → nr v = 1000000) (h230 : M.1 101 0 230 = iN n) (hW : WyM (M.1 101 0) w) : ∃ M' : Mem, CC X (d + 2) 264 [vR 100 0, vI (iN f), vI (iN b)] M (some (vI (if Nat.testBit k b = true then iN (nr b) else -1))) M' ∧ K3 (fun c a _ => c = 117 ∧ a = 0) M M' := by
  obtain ⟨M1, ⟨i1, i2⟩, hV⟩ := for_fwd (n := 8) (M := M)
    (I := fun t Mt => (∀ j, j < t → Mt.1 117 0 j = iN (if j = f then 0 else 100000000)) ∧ K3 (fun c a _ => c = 117 ∧ a = 0) M Mt)
    (St := fun t Mt Q => V X (d + 2) 264 2 [some (vR 100 0), some (vI (iN f)), some (vI (iN b)), some (vI (iN t)), none, none] [] Mt Q)
    (by
      rintro t Mt ht ⟨g1, g2⟩
      refine ⟨st Mt 117 0 t (iN (if t = f then 0 else 100000000)), ⟨fun j hj => ?_, k3_trans g2 (k3_st ⟨rfl, rfl⟩)⟩, fun Q hQ => w264_2 ?_⟩
      · by_cases hjt : j = t
        · subst hjt
          rw [st_at]
        · rw [st_ne3 (fun z => hjt z.2.2)]
          exact g1 j (by omega)
      · refine ⟨fun z => absurd ((iN_le (a := 8) (by decide) (by omega)).mp z) (by omega), fun _ => ⟨fun z => ⟨inb_of ht (by decide), ?_⟩, fun z => ⟨inb_of ht (by decide), ?_⟩⟩⟩
        · rw [ix_of (by omega), iN_step]
          rw [if_neg (fun h => z (by rw [h]))] at hQ
          rintro M1 rfl
          exact hQ
        · rw [ix_of (by omega), iN_step]
          rw [if_pos ((iN_inj (by omega) (by omega)).mp z)] at hQ
          rintro M1 rfl
          exact hQ)
    ⟨fun j hj => absurd hj (by omega), k3_refl⟩
  have kf : Nat.testBit k f = true := by
    cases hk : Nat.testBit k f with
    | true => rfl
    | false =>
      have := hfin f hf hk
      rw [hD.2.2.1] at this
      omega
  have hB0 : BfI n f k nr rk 0 (fun v => if v = f then 0 else 100000000) := by
    refine ⟨fun v hv => ?_, if_pos rfl, fun v h1 h2 => ?_⟩
    · show gD k nr v ≤ (if v = f then 0 else 100000000) ∧ (if v = f then 0 else 100000000) ≤ 100000000
      by_cases h : v = f
      · rw [if_pos h, h]
        have : gD k nr f = nr f := if_pos kf
        rw [this, hD.2.2.1]
        omega
      · rw [if_neg h]
        have := gD_le hD (v := v)
        omega
    · show (if v = f then 0 else 100000000) ≤ nr v
      by_cases h : v = f
      · rw [if_pos h]
        exact Nat.zero_le _
      · have hv := hD.2.1 v h1
        obtain ⟨u, a1, a2, a3, a4⟩ := hD.2.2.2.2.2.2 v hv.1 h hv.2.1
        have := a4 h1
        omega
  obtain ⟨wt, M2, r1, r2, r3, r4⟩ := c264_out (X := X) (d := d) (x2 := iN b) hn hf hw hD hfin 8 0 _ M1 (by omega) (by rw [i2 101 0 230 (by omega)]; exact h230) (by rw [k3_col (c := 101) (a := 0) i2 (fun _ => by omega)]; exact hW) i1 hB0
  have gb := r2.1 b hb
  have val : wt b = gD k nr b := by
    by_cases hk : Nat.testBit k b = true
    · have g : gD k nr b = nr b := if_pos hk
      have := cnK_le (k := k) (n := n)
      have := r2.2.2 b hk (by have := (hD.2.1 b hk).2.2; omega)
      omega
    · have g : gD k nr b = 100000000 := if_neg hk
      omega
  refine ⟨M2, e264 (w264_0 (hV _ (w264_2 ⟨fun _ => r4 _ (w264_34 ⟨fun _ => ?_, fun z => absurd (by decide) z⟩), fun z => absurd (by decide) z⟩))), k3_trans i2 r3⟩
  have ib : inb (iN b) 8 := inb_of (by omega) (by decide)
  rw [ix_of (by omega), r1 b (by omega), val]
  by_cases hk : Nat.testBit k b = true
  · have g : gD k nr b = nr b := if_pos hk
    have h6 := (hD.2.1 b hk).2.1
    have l8 : iN (nr b) < 100000000 := (iN_lt (b := 100000000) (by omega) (by decide)).mpr (by omega)
    rw [g, if_pos hk]
    exact ⟨ib, fun _ => ⟨ib, rfl, rfl⟩, fun z => absurd l8 z⟩
  · have g : gD k nr b = 100000000 := if_neg hk
    rw [g, if_neg hk]
    exact ⟨ib, fun z => absurd z (by decide), fun _ => ⟨rfl, rfl⟩⟩
theorem op137 {X : Cx} {d : Nat} {M : Mem} {B lc : Nat} {u v : Int32} (hl : WldL B M lc) (hy : WayR M 0 (M.1 101 0)) (hsy : ∀ i j, i < 8 → j < 8 → M.1 59 0 (8 * i + j) = M.1 59 0 (8 * j + i)) : ∃ (x : Int32) (M1 M2 : Mem), CC X (d + 4) 137 [vR 2 0, vI u, vI v] M (some (vI x)) M1 ∧ CC X (d + 4) 265 [vR 100 0, vI u, vI v] M1 (some (vI x)) M2 ∧ K3 (fun c a _ => (c = 60 ∨ c = 61 ∨ c = 117) ∧ a = 0) M M2 := by
  have hT := hl.1
  obtain ⟨n5, n6, n7, vm, vc⟩ := VT_n hl.2.1 hT
  obtain ⟨c5, c6, c7, q5, q6, q7⟩ := vt_c vc
  obtain ⟨m5, m6, m7, -⟩ := vt_m vm
  -- the ways as numbers
  have hex : ∃ w : Nat → Nat → Nat, (∀ i j, w i j ≤ 99) ∧ WyC M 0 w ∧ WyM (M.1 101 0) w ∧ ∀ i j, i < 8 → j < 8 → w i j = w j i := by
    refine ⟨fun i j => if i < 8 ∧ j < 8 then ix (M.1 59 0 (8 * i + j)) else 0, fun i j => ?_, fun i j hi hj => ?_, fun i j hi hj => ?_, fun i j hi hj => ?_⟩
    · show (if i < 8 ∧ j < 8 then ix (M.1 59 0 (8 * i + j)) else 0) ≤ 99
      by_cases h : i < 8 ∧ j < 8
      · rw [if_pos h]
        rcases hy i j h.1 h.2 with ⟨h1, -⟩ | ⟨l, h1, h2, h3, -⟩
        · rw [h1, show ix 0 = 0 from ix_l (by decide)]
          omega
        · rw [h3, ix_of (by omega)]
          exact h2
      · rw [if_neg h]
        omega
    · show _ = iN (if i < 8 ∧ j < 8 then ix (M.1 59 0 (8 * i + j)) else 0)
      rw [if_pos ⟨hi, hj⟩]
      rcases hy i j hi hj with ⟨h1, -⟩ | ⟨l, h1, h2, h3, -⟩
      · rw [h1]
        rfl
      · rw [h3, ix_of (by omega)]
    · show _ = (if (if i < 8 ∧ j < 8 then ix (M.1 59 0 (8 * i + j)) else 0) = 0 then -1 else iN (if i < 8 ∧ j < 8 then ix (M.1 59 0 (8 * i + j)) else 0))
      have e0 : (if i < 8 ∧ j < 8 then ix (M.1 59 0 (8 * i + j)) else 0) = ix (M.1 59 0 (8 * i + j)) := if_pos ⟨hi, hj⟩
      rw [e0]
      rcases hy i j hi hj with ⟨h1, h2⟩ | ⟨l, h1, h2, h3, h4⟩
      · rw [h1, h2, show ix 0 = 0 from ix_l (by decide), if_pos rfl]
      · rw [h3, h4, ix_of (by omega), if_neg (by omega)]
    · show (if i < 8 ∧ j < 8 then ix (M.1 59 0 (8 * i + j)) else 0) = (if j < 8 ∧ i < 8 then ix (M.1 59 0 (8 * j + i)) else 0)
      rw [if_pos ⟨hi, hj⟩, if_pos ⟨hj, hi⟩, hsy i j hi hj]
  obtain ⟨w, hw, hWC, hWM, hws⟩ := hex
  have hs : ∀ x y, x < n6 → y < n6 → w x y = w y x := fun x y hx hy => hws x y (by omega) (by omega)
  by_cases hu : u = -1
  · subst hu
    by_cases h0 : n6 = 0
    · have cr := c263 (X := X) (d := d + 1) (M := M) q6 hw hs m6 hWM
      rw [if_pos h0] at cr
      refine ⟨0, M, M, e137 (w137_0 ⟨fun z => absurd rfl z, fun _ => ⟨_, _, e19 (w19_0 ⟨fun z => absurd ?_ z, fun _ => ⟨rfl, rfl⟩⟩), rfl, rfl⟩⟩), e265 (w265_0 ⟨fun z => absurd rfl z, fun _ => ⟨_, _, cr, rfl, rfl⟩⟩), k3_refl⟩
      rw [c6, h0]
      rfl
    · obtain ⟨M1, p1, p2⟩ := c19 (X := X) (d := d) (M := M) (a := 0) q6 (by omega) hw hs hWC
      have wM : M1.1 101 0 = M.1 101 0 := k3_col p2 (fun _ => by omega)
      have cr := c263 (X := X) (d := d + 1) (M := M1) q6 hw hs (by rw [wM]; exact m6) (by rw [wM]; exact hWM)
      rw [if_neg h0] at cr
      refine ⟨prS n6 w, M1, M1, e137 (w137_0 ⟨fun z => absurd rfl z, fun _ => ⟨_, _, by rw [c6]; exact p1, rfl, rfl⟩⟩), e265 (w265_0 ⟨fun z => absurd rfl z, fun _ => ⟨_, _, cr, rfl, rfl⟩⟩), k3_sub p2 (fun c a j z => by omega)⟩
  · have cu := c56 (X := X) (d := d + 2) (M := M) (a := 0) (v := u)
    rw [c6] at cu
    have cv := c56 (X := X) (d := d + 2) (M := M) (a := 0) (v := v)
    rw [c6] at cv
    have ru (M1 : Mem) (g : M1.1 101 0 230 = iN n6) := c156 (X := X) (d := d + 1) (M := M1) (v := u) g q6
    have rv (M1 : Mem) (g : M1.1 101 0 230 = iN n6) := c156 (X := X) (d := d + 1) (M := M1) (v := v) g q6
    by_cases h1 : has u (iN n6) 8 = true
    · rw [h1] at cu ru
      by_cases h2 : has v (iN n6) 8 = true
      · rw [h2] at cv rv
        obtain ⟨f, rfl, hf⟩ := has_lt (k := 8) q6 (by decide) h1
        obtain ⟨b, rfl, hb⟩ := has_lt (k := 8) q6 (by decide) h2
        obtain ⟨M1, k, nr, rk, p1, p2, p3, p4⟩ := c20 (X := X) (d := d) (M := M) (a := 0) q6 hf hb hw hWC
        have wM : M1.1 101 0 = M.1 101 0 := k3_col p4 (fun _ => by omega)
        obtain ⟨M2, r1, r2⟩ := c264 (X := X) (d := d + 1) (M := M1) q6 hf hb hw p1 p2 (by rw [wM]; exact m6) (by rw [wM]; exact hWM)
        refine ⟨_, M1, M2, e137 (w137_0 ⟨fun _ => ⟨_, _, cu, ?_⟩, fun z => absurd z hu⟩), e265 (w265_0 ⟨fun _ => ⟨_, _, ru M1 (by rw [wM]; exact m6), fun z => absurd z (by decide), fun _ => ⟨_, _, rv M1 (by rw [wM]; exact m6), fun z => absurd z (by decide), fun _ => ⟨_, _, r1, rfl, rfl⟩⟩⟩, fun z => absurd z hu⟩), k3_trans (k3_sub p4 (fun c a j z => by omega)) (k3_sub r2 (fun c a j z => by omega))⟩
        refine ⟨fun z => absurd z (by decide), fun _ => ⟨_, _, cv, fun z => absurd z (by decide), fun _ => ⟨_, _, by rw [c6]; exact p3, rfl, rfl⟩⟩⟩
      · have h2 : has v (iN n6) 8 = false := by simpa using h2
        rw [h2] at cv rv
        exact ⟨-1, M, M, e137 (w137_0 ⟨fun _ => ⟨_, _, cu, fun z => absurd z (by decide), fun _ => ⟨_, _, cv, fun _ => ⟨rfl, rfl⟩, fun z => absurd rfl z⟩⟩, fun z => absurd z hu⟩), e265 (w265_0 ⟨fun _ => ⟨_, _, ru M m6, fun z => absurd z (by decide), fun _ => ⟨_, _, rv M m6, fun _ => ⟨rfl, rfl⟩, fun z => absurd rfl z⟩⟩, fun z => absurd z hu⟩), k3_refl⟩
    · have h1 : has u (iN n6) 8 = false := by simpa using h1
      rw [h1] at cu ru
      exact ⟨-1, M, M, e137 (w137_0 ⟨fun _ => ⟨_, _, cu, fun _ => ⟨rfl, rfl⟩, fun z => absurd rfl z⟩, fun z => absurd z hu⟩), e265 (w265_0 ⟨fun _ => ⟨_, _, ru M m6, fun _ => ⟨rfl, rfl⟩, fun z => absurd rfl z⟩, fun z => absurd z hu⟩), k3_refl⟩
