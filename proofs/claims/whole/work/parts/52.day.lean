/-! a day: sky, calls, what falls at home -/
abbrev Cl : Type := List (Int32 × Nat × Nat × Nat × Nat)
abbrev Sk : Type := List (Int32 × Nat)
def ClC (M : Mem) (b : Nat) (C : Cl) : Prop := M.1 50 b 0 = iN C.length ∧ ∀ (i : Nat) (y : Int32) (p R k e : Nat), C[i]? = some (y, p, R, k, e) → M.1 53 b i = y ∧ M.1 54 b i = iN p ∧ M.1 55 b i = iN R ∧ M.1 56 b i = iN e
def ClM (W : Nat → Int32) (C : Cl) : Prop := W 233 = iN C.length ∧ ∀ (i : Nat) (y : Int32) (p R k e : Nat), C[i]? = some (y, p, R, k, e) → W (287 + 9 * i) = y ∧ W (287 + 9 * i + 1) = iN p ∧ W (287 + 9 * i + 2) = iN e ∧ (∀ j, j < k → W (287 + 9 * i + 3 + j) = iN (R / 10 ^ (k - 1 - j) % 10)) ∧ ∀ j, k ≤ j → j < 6 → W (287 + 9 * i + 3 + j) = -1
def ClT (C : Cl) (n5 n6 n7 : Nat) : Prop := C.length ≤ 16 ∧ ∀ (i : Nat) (y : Int32) (p R k e : Nat), C[i]? = some (y, p, R, k, e) → p < n7 ∧ e < n6 ∧ 1 ≤ k ∧ k ≤ 6 ∧ 10 ^ k ≤ R ∧ R < 2 * 10 ^ k ∧ ∀ f, f ∈ digs R k → f < n5
def SkC (M : Mem) (b : Nat) (S : Sk) : Prop := M.1 50 b 1 = iN S.length ∧ ∀ (i : Nat) (y : Int32) (s : Nat), S[i]? = some (y, s) → M.1 57 b i = y ∧ M.1 58 b i = iN s
def SkM (W : Nat → Int32) (S : Sk) : Prop := W 234 = iN S.length ∧ ∀ (i : Nat) (y : Int32) (s : Nat), S[i]? = some (y, s) → W (431 + 3 * i) = y ∧ (s ≤ 9 → W (431 + 3 * i + 1) = 11 ∧ W (431 + 3 * i + 2) = iN s) ∧ (s = 10 → W (431 + 3 * i + 1) = 12) ∧ (s = 11 → W (431 + 3 * i + 1) = 13)
def SkT (S : Sk) : Prop := S.length ≤ 16 ∧ ∀ (i : Nat) (y : Int32) (s : Nat), S[i]? = some (y, s) → s ≤ 11
def sky1 (T : Ld) (y : Int32) (s : Nat) : Ld := if y = T 20 4 then (if s ≤ 9 then up2 T 20 1 (iN s) else up2 T 20 2 (if s = 10 then 1 else 0)) else T
def skyS (T : Ld) : Sk → Ld
  | [] => T
  | (y, s) :: r => skyS (sky1 T y s) r
def callsS (L : Lw) (n6 : Nat) (real : Bool) : Ld → Cl → Ld × Nat × List Qd
  | T, [] => (T, 0, [])
  | T, (y, p, R, k, e) :: r => if y = T 20 4 then ((callsS L n6 real (visitS L T n6 p (digs R k) e real).1 r).1, (callsS L n6 real (visitS L T n6 p (digs R k) e real).1 r).2.1 + 1, visE T p (visitS L T n6 p (digs R k) e real) real ++ (callsS L n6 real (visitS L T n6 p (digs R k) e real).1 r).2.2) else callsS L n6 real T r
def dropF (T : Ld) (p h n5 : Nat) : Nat → Ld × Int32
  | 0 => (T, 0)
  | f + 1 => (if T 23 h = 1 then (if f < n5 then up2 (up2 (dropF T p h n5 f).1 29 (p * 10 + f) ((dropF T p h n5 f).1 29 (p * 10 + f) - (dropF T p h n5 f).1 29 (p * 10 + f) / 2)) 22 f (lsr 9999 ((dropF T p h n5 f).1 22 f + (dropF T p h n5 f).1 29 (p * 10 + f) / 2)) else up2 (dropF T p h n5 f).1 29 (p * 10 + f) ((dropF T p h n5 f).1 29 (p * 10 + f) - (dropF T p h n5 f).1 29 (p * 10 + f) / 2)) else up2 (up2 (dropF T p h n5 f).1 29 (p * 10 + f) ((dropF T p h n5 f).1 29 (p * 10 + f) - (dropF T p h n5 f).1 29 (p * 10 + f) / 2)) 24 (h * 10 + f) ((dropF T p h n5 f).1 24 (h * 10 + f) + (dropF T p h n5 f).1 29 (p * 10 + f) / 2), (dropF T p h n5 f).2 + (dropF T p h n5 f).1 29 (p * 10 + f) / 2)
def dropE (T : Ld) (p : Nat) (x : Int32) (real : Bool) : List Qd := if real = true ∧ 0 < x then [(T 20 4, 2, iN p, x)] else []
def dropA (T : Ld) (n5 : Nat) (real : Bool) : Nat → Ld × List Qd
  | 0 => (T, [])
  | p + 1 => ((dropF (dropA T n5 real p).1 p (ix ((dropA T n5 real p).1 25 p)) n5 10).1, (dropA T n5 real p).2 ++ dropE (dropA T n5 real p).1 p (dropF (dropA T n5 real p).1 p (ix ((dropA T n5 real p).1 25 p)) n5 10).2 real)
/-- a day: the land, how many calls, the lines -/
def dayS (L : Lw) (C : Cl) (S : Sk) (n5 n6 n7 : Nat) (real : Bool) (T : Ld) : Ld × Nat × List Qd :=
  (fun (c : Ld × Nat × List Qd) => (fun (q : Ld × List Qd) => (up2 q.1 20 4 (q.1 20 4 + 1), c.2.1, c.2.2 ++ q.2)) (if c.1 20 2 = 0 then dropA c.1 n5 real n7 else (c.1, []))) (callsS L n6 real (skyS T S) C)
theorem bkL_app : ∀ {es fs : List Qd} {s : Bk}, bkL s (es ++ fs) = bkL (bkL s es) fs
  | [], _, _ => rfl
  | q :: es, fs, s => by
    show bkL (bkA s q) (es ++ fs) = _
    rw [bkL_app]
    rfl
/-! these keep a land as it may be -/
theorem sky1_v {B n5 n6 n7 : Nat} {T : Ld} {y : Int32} {s : Nat} (h : VTn B T n5 n6 n7) : VTn B (sky1 T y s) n5 n6 n7 := by
  unfold sky1
  split
  · split
    · exact h.off (Or.inl ⟨rfl, Or.inr (Or.inl rfl)⟩)
    · refine h.frost ?_
      split
      · exact Or.inr rfl
      · exact Or.inl rfl
  · exact h
theorem skyS_v {B n5 n6 n7 : Nat} : ∀ {S : Sk} {T : Ld}, VTn B T n5 n6 n7 → VTn B (skyS T S) n5 n6 n7
  | [], _, h => h
  | (y, s) :: r, T, h => (show VTn B (skyS (sky1 T y s) r) n5 n6 n7 from skyS_v (sky1_v h))
theorem callsS_v {L : Lw} {n5 n6 n7 : Nat} {real : Bool} : ∀ {C : Cl} {B : Nat} {T : Ld}, VTn B T n5 n6 n7 → ClT C n5 n6 n7 → VTn (B + 90 * C.length) (callsS L n6 real T C).1 n5 n6 n7
  | [], B, T, h, _ => h
  | (y, p, R, k, e) :: r, B, T, h, hc => by
    have hr : ClT r n5 n6 n7 := ⟨by have := hc.1; simp only [List.length_cons] at this; omega, fun i y p R k e hi => hc.2 (i + 1) y p R k e hi⟩
    obtain ⟨c1, c2, -, -, -, -, c7⟩ := hc.2 0 y p R k e rfl
    unfold callsS
    split
    · have := callsS_v (L := L) (real := real) (C := r) (visitS_v (L := L) (real := real) h c1 c2 c7).1 hr
      exact this.mono (by simp only [List.length_cons]; omega)
    · exact (callsS_v (L := L) (real := real) (C := r) h hr).mono (by simp only [List.length_cons]; omega)
theorem dropF_keep {T : Ld} {p h n5 : Nat} : ∀ {j c i : Nat}, ((c ≠ 22 ∧ c ≠ 24 ∧ c ≠ 29) ∨ (c = 29 ∧ p * 10 + j ≤ i) ∨ (c = 22 ∧ j ≤ i) ∨ (c = 24 ∧ h * 10 + j ≤ i)) → (dropF T p h n5 j).1 c i = T c i
  | 0, _, _, _ => rfl
  | j + 1, c, i, hh => by
    have ih : (dropF T p h n5 j).1 c i = T c i := dropF_keep (by omega)
    unfold dropF
    show (if T 23 h = 1 then _ else _ : Ld) c i = T c i
    split
    · split
      · rw [up2_ne (by omega), up2_ne (by omega)]
        exact ih
      · rw [up2_ne (by omega)]
        exact ih
    · rw [up2_ne (by omega), up2_ne (by omega)]
      exact ih
/-- one cell of the boots alone -/
theorem VTn.boot {B n5 n6 n7 : Nat} {T : Ld} {p f b' : Nat} (h : VTn B T n5 n6 n7) (hp : p < n7) (hf : f < 10) (hb : ∀ x : Nat, x < 2147483648 → T 29 (p * 10 + f) = iN x → b' ≤ x) : VTn B (up2 T 29 (p * 10 + f) (iN b')) n5 n6 n7 := by
  obtain ⟨h1, h2, h3, h4, h5, h6, h7, h8, h9, h10, h11, h12⟩ := h
  refine ⟨h1, h2, h3, ?_, ?_, ?_, ?_, fun g hg => ?_, fun q hq => ?_, fun q hq1 hq2 g hg => ?_, fun e2 g he2 hg => ?_, fun e2 g he2 hg hg2 => ?_⟩
  · rw [up2_ne (by omega)]; exact h4
  · rw [up2_ne (by omega)]; exact h5
  · rw [up2_ne (by omega)]; exact h6
  · rw [up2_ne (by omega)]; exact h7
  · rw [up2_ne (by omega)]; exact h8 g hg
  · obtain ⟨hm, s, b, c1, c2, c3, c4, c5, d1, d2, d3⟩ := h9 q hq
    by_cases hqp : q = p
    · subst hqp
      have hbf := sumN_ge (b := b) hf
      have hle := hb (b f) (by omega) (d1 f hf)
      refine ⟨hm, s, updN b f b', c1, ?_, c3, c4, ?_, fun g hg => ?_, fun g hg1 hg2 => ?_, ?_⟩
      · rw [up2_ne (by omega)]; exact c2
      · rw [up2_ne (by omega)]; exact c5
      · by_cases hgf : g = f
        · subst hgf
          rw [up2_at]
          unfold updN
          rw [if_pos rfl]
        · rw [up2_ne (by omega), d1 g hg]
          unfold updN
          rw [if_neg hgf]
      · unfold updN
        split
        · next hgf =>
          subst hgf
          have := d2 g hg1 hg2
          omega
        · exact d2 g hg1 hg2
      · have := sumN_upd (b := b) (k := f) (x := b') (n := 10) hf
        omega
    · refine ⟨hm, s, b, c1, ?_, c3, c4, ?_, fun g hg => ?_, d2, d3⟩
      · rw [up2_ne (by omega)]; exact c2
      · rw [up2_ne (by omega)]; exact c5
      · rw [up2_ne (by omega)]
        exact d1 g hg
  · rw [up2_ne (by omega)]
    exact h10 q hq1 hq2 g hg
  · rw [up2_ne (by omega)]
    exact h11 e2 g he2 hg
  · rw [up2_ne (by omega)]
    exact h12 e2 g he2 hg hg2
theorem VTn.land {B n5 n6 n7 : Nat} {T : Ld} {f l : Nat} (h : VTn B T n5 n6 n7) (hl : l ≤ 9999) : VTn B (up2 T 22 f (iN l)) n5 n6 n7 := by
  obtain ⟨h1, h2, h3, h4, h5, h6, h7, h8, h9, h10, h11, h12⟩ := h
  refine ⟨h1, h2, h3, ?_, ?_, ?_, ?_, fun g hg => ?_, fun q hq => ?_, fun q hq1 hq2 g hg => ?_, fun e2 g he2 hg => ?_, fun e2 g he2 hg hg2 => ?_⟩
  · rw [up2_ne (by omega)]; exact h4
  · rw [up2_ne (by omega)]; exact h5
  · rw [up2_ne (by omega)]; exact h6
  · rw [up2_ne (by omega)]; exact h7
  · by_cases hgf : g = f
    · rw [hgf, up2_at]
      exact ⟨l, hl, rfl⟩
    · rw [up2_ne (by omega)]; exact h8 g hg
  · obtain ⟨hm, s, b, c1, c2, c3, c4, c5, d1, d2, d3⟩ := h9 q hq
    exact ⟨hm, s, b, c1, by rw [up2_ne (by omega)]; exact c2, c3, c4, by rw [up2_ne (by omega)]; exact c5, fun g hg => by rw [up2_ne (by omega)]; exact d1 g hg, d2, d3⟩
  · rw [up2_ne (by omega)]; exact h10 q hq1 hq2 g hg
  · rw [up2_ne (by omega)]; exact h11 e2 g he2 hg
  · rw [up2_ne (by omega)]; exact h12 e2 g he2 hg hg2
theorem half_n {x : Nat} (h : x < 2147483648) : iN x / 2 = iN (x / 2) := by rw [iN_lit 2, iN_div h (by decide) (by decide)]
theorem dropF_v {B n5 n6 n7 : Nat} {T : Ld} {p h : Nat} (hv : VTn B T n5 n6 n7) (hp : p < n7) (hh : h < n6) : ∀ {j : Nat}, j ≤ 10 → VTn (B + 90) (dropF T p h n5 j).1 n5 n6 n7
  | 0, _ => hv.mono (by omega)
  | j + 1, hj => by
    have i1 := dropF_v (h := h) hv hp hh (j := j) (by omega)
    obtain ⟨x, x1, x2, x3⟩ := boot_n i1 hp (show j < 10 by omega)
    have hx : (dropF T p h n5 j).1 29 (p * 10 + j) / 2 = iN (x / 2) := by rw [x2, half_n (by omega)]
    have hb : ∀ y : Nat, y < 2147483648 → (dropF T p h n5 j).1 29 (p * 10 + j) = iN y → x - x / 2 ≤ y := fun y hy hy2 => by
      rw [x2] at hy2
      have := (iN_inj (by omega) hy).mp hy2
      omega
    have e1 : (dropF T p h n5 j).1 29 (p * 10 + j) - (dropF T p h n5 j).1 29 (p * 10 + j) / 2 = iN (x - x / 2) := by rw [hx, x2, iN_sub (by omega)]
    unfold dropF
    show VTn (B + 90) (if T 23 h = 1 then _ else _ : Ld) n5 n6 n7
    rw [e1, hx]
    have hn6 := hv.2.1
    split
    · split
      · obtain ⟨l, l1, l2⟩ := hv.2.2.2.2.2.2.2.1 j (by omega)
        rw [dropF_keep (c := 22) (by omega), l2, iN_add, iN_lit 9999, lsr_n (by decide) (by omega)]
        exact (i1.boot hp (by omega) hb).land (Nat.min_le_left _ _)
      · exact i1.boot hp (by omega) hb
    · obtain ⟨y, y1, y2⟩ := hv.2.2.2.2.2.2.2.2.2.2.1 h j (by omega) (by omega)
      rw [dropF_keep (c := 24) (by omega), y2, iN_add]
      by_cases hjn : j < n5
      · exact i1.shed hp hjn hh hb (by omega)
      · have hx0 := x3 (by omega)
        subst hx0
        have hz := hv.2.2.2.2.2.2.2.2.2.2.2 h j (by omega) (by omega) (by omega)
        rw [y2] at hz
        have hy0 : y = 0 ∨ ¬ y < 2147483648 := by
          by_cases hy : y < 2147483648
          · exact Or.inl ((iN_inj (b := 0) hy (by decide)).mp hz)
          · exact Or.inr hy
        have e3 : iN (y + 0 / 2) = 0 := by rw [show y + 0 / 2 = y by omega]; exact hz
        rw [e3]
        have := i1.boot hp (show j < 10 by omega) hb
        have e4 : up2 (up2 (dropF T p h n5 j).1 29 (p * 10 + j) (iN (0 - 0 / 2))) 24 (h * 10 + j) 0 = up2 (dropF T p h n5 j).1 29 (p * 10 + j) (iN (0 - 0 / 2)) := by
          have q : up2 (dropF T p h n5 j).1 29 (p * 10 + j) (iN (0 - 0 / 2)) 24 (h * 10 + j) = 0 := by
            rw [up2_ne (by omega), dropF_keep (by omega), y2]
            exact hz
          conv => lhs; rw [← q]
          exact up2_id
        rw [e4]
        exact this
theorem dropA_v {n5 n6 n7 : Nat} {real : Bool} {B : Nat} {T : Ld} (hv : VTn B T n5 n6 n7) : ∀ {p : Nat}, p ≤ n7 → VTn (B + 90 * p) (dropA T n5 real p).1 n5 n6 n7
  | 0, _ => hv
  | p + 1, hp => by
    have ih := dropA_v (real := real) hv (p := p) (by omega)
    obtain ⟨h, s, b, h1, h2, -⟩ := ih.2.2.2.2.2.2.2.2.1 p (by omega)
    have hn6 := hv.2.1
    show VTn (B + 90 * (p + 1)) (dropF (dropA T n5 real p).1 p (ix ((dropA T n5 real p).1 25 p)) n5 10).1 n5 n6 n7
    rw [h2, ix_of (by omega)]
    exact (dropF_v ih (show p < n7 by omega) h1 (Nat.le_refl 10)).mono (by omega)
theorem dayS_v {L : Lw} {C : Cl} {S : Sk} {n5 n6 n7 : Nat} {real : Bool} {B : Nat} {T : Ld} (hv : VTn B T n5 n6 n7) (hc : ClT C n5 n6 n7) : VTn (B + 2520) (dayS L C S n5 n6 n7 real T).1 n5 n6 n7 := by
  have h1 := callsS_v (L := L) (real := real) (C := C) (skyS_v (S := S) hv) hc
  have hl := hc.1
  have hn7 := hv.2.2.1
  have h2 : VTn (B + 2520) (if (callsS L n6 real (skyS T S) C).1 20 2 = 0 then dropA (callsS L n6 real (skyS T S) C).1 n5 real n7 else ((callsS L n6 real (skyS T S) C).1, [])).1 n5 n6 n7 := by
    split
    · exact (dropA_v h1 (Nat.le_refl n7)).mono (by omega)
    · exact h1.mono (by omega)
  exact h2.off (Or.inl ⟨rfl, Or.inr (Or.inr (Or.inr rfl))⟩)
