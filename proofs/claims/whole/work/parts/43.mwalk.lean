/-! leaving keeps the land as it may be -/
theorem VTn.mono {B B2 n5 n6 n7 : Nat} {T : Ld} (h : VTn B T n5 n6 n7) (hb : B ≤ B2) : VTn B2 T n5 n6 n7 := by
  obtain ⟨h1, h2, h3, h4, h5, h6, h7, h8, h9, h10, h11, h12⟩ := h
  exact ⟨h1, h2, h3, h4, h5, h6, h7, h8, h9, h10, fun e f he hf => (h11 e f he hf).imp (fun x hx => ⟨by omega, hx.2⟩), h12⟩
/-- boots of p at f become b', the heap of e at f becomes h' -/
theorem VTn.shed {B n5 n6 n7 : Nat} {T : Ld} {p e f b' h' : Nat} (h : VTn B T n5 n6 n7) (hp : p < n7) (hf : f < n5) (he : e < n6) (hb : ∀ x : Nat, x < 2147483648 → T 29 (p * 10 + f) = iN x → b' ≤ x) (hh : h' ≤ B) : VTn B (up2 (up2 T 29 (p * 10 + f) (iN b')) 24 (e * 10 + f) (iN h')) n5 n6 n7 := by
  obtain ⟨h1, h2, h3, h4, h5, h6, h7, h8, h9, h10, h11, h12⟩ := h
  have off : ∀ c j, c ≠ 24 → c ≠ 29 → up2 (up2 T 29 (p * 10 + f) (iN b')) 24 (e * 10 + f) (iN h') c j = T c j := fun c j q1 q2 => by rw [up2_ne (by omega), up2_ne (by omega)]
  refine ⟨h1, h2, h3, ?_, ?_, ?_, ?_, fun g hg => ?_, fun q hq => ?_, fun q hq1 hq2 g hg => ?_, fun e2 g he2 hg => ?_, fun e2 g he2 hg hg2 => ?_⟩
  · rw [off _ _ (by decide) (by decide)]; exact h4
  · rw [off _ _ (by decide) (by decide)]; exact h5
  · rw [off _ _ (by decide) (by decide)]; exact h6
  · rw [off _ _ (by decide) (by decide)]; exact h7
  · rw [off _ _ (by decide) (by decide)]; exact h8 g hg
  · obtain ⟨hm, s, b, c1, c2, c3, c4, c5, d1, d2, d3⟩ := h9 q hq
    by_cases hqp : q = p
    · subst hqp
      have hbf := sumN_ge (b := b) (show f < 10 by omega)
      have hle := hb (b f) (by omega) (d1 f (by omega))
      refine ⟨hm, s, updN b f b', c1, ?_, c3, c4, ?_, fun g hg => ?_, fun g hg1 hg2 => ?_, ?_⟩
      · rw [off _ _ (by decide) (by decide)]; exact c2
      · rw [off _ _ (by decide) (by decide)]; exact c5
      · rw [up2_ne (by omega)]
        by_cases hgf : g = f
        · subst hgf
          rw [up2_at]
          unfold updN
          rw [if_pos rfl]
        · rw [up2_ne (by omega), d1 g hg]
          unfold updN
          rw [if_neg hgf]
      · unfold updN
        rw [if_neg (by omega)]
        exact d2 g hg1 hg2
      · have := sumN_upd (b := b) (k := f) (x := b') (n := 10) (by omega)
        omega
    · refine ⟨hm, s, b, c1, ?_, c3, c4, ?_, fun g hg => ?_, d2, d3⟩
      · rw [off _ _ (by decide) (by decide)]; exact c2
      · rw [off _ _ (by decide) (by decide)]; exact c5
      · rw [up2_ne (by omega), up2_ne (by omega)]
        exact d1 g hg
  · rw [up2_ne (by omega), up2_ne (by omega)]
    exact h10 q hq1 hq2 g hg
  · by_cases hx : e2 * 10 + g = e * 10 + f
    · rw [hx, up2_at]
      exact ⟨h', hh, rfl⟩
    · rw [up2_ne (by omega), up2_ne (by omega)]
      exact h11 e2 g he2 hg
  · rw [up2_ne (by omega), up2_ne (by omega)]
    exact h12 e2 g he2 hg hg2
theorem boot_n {B n5 n6 n7 : Nat} {T : Ld} {p f : Nat} (h : VTn B T n5 n6 n7) (hp : p < n7) (hf : f < 10) : ∃ x : Nat, x ≤ 90 ∧ T 29 (p * 10 + f) = iN x ∧ (n5 ≤ f → x = 0) := by
  obtain ⟨h1, h2, h3, h4, h5, h6, h7, h8, h9, h10, h11, h12⟩ := h
  obtain ⟨hm, s, b, c1, c2, c3, c4, c5, d1, d2, d3⟩ := h9 p hp
  have hbf := sumN_ge (b := b) hf
  exact ⟨b f, by omega, d1 f hf, fun z => d2 f z hf⟩
theorem iN_le0 {x : Nat} (h : x < 2147483648) : (iN x ≤ 0) = (x = 0) := propext (by
  have := iN_le (a := x) (b := 0) h (by decide)
  constructor
  · intro z
    have := this.mp z
    omega
  · intro z
    exact this.mpr (by omega))
theorem lvS_v {L : Lw} {B n5 n6 n7 : Nat} {T : Ld} {p e : Nat} (h : VTn B T n5 n6 n7) (hp : p < n7) (he : e < n6) : ∀ {j : Nat}, j ≤ 10 → VTn (B + 90) (lvS L p e T j).1 n5 n6 n7 ∧ ∀ f, j ≤ f → f < 10 → (lvS L p e T j).1 24 (e * 10 + f) = T 24 (e * 10 + f)
  | 0, _ => ⟨h.mono (by omega), fun _ _ _ => rfl⟩
  | j + 1, hj => by
    obtain ⟨i1, i2⟩ := lvS_v (L := L) h hp he (j := j) (by omega)
    obtain ⟨x, x1, x2, x3⟩ := boot_n i1 hp (show j < 10 by omega)
    by_cases hz : (lvS L p e T j).1 29 (p * 10 + j) ≤ 0
    · have e1 : lvS L p e T (j + 1) = lvS L p e T j := if_pos hz
      rw [e1]
      exact ⟨i1, fun f h1 h2 => i2 f (by omega) h2⟩
    · have e1 : lvS L p e T (j + 1) = (up2 (up2 (lvS L p e T j).1 29 (p * 10 + j) ((lvS L p e T j).1 29 (p * 10 + j) - (lvS L p e T j).1 29 (p * 10 + j) * askS L (lvS L p e T j).1 1 p (some j) (some e) / 1000)) 24 (e * 10 + j) ((lvS L p e T j).1 24 (e * 10 + j) + (lvS L p e T j).1 29 (p * 10 + j) * askS L (lvS L p e T j).1 1 p (some j) (some e) / 1000), (lvS L p e T j).2 + (lvS L p e T j).1 29 (p * 10 + j) * askS L (lvS L p e T j).1 1 p (some j) (some e) / 1000) := if_neg hz
      rw [e1]
      obtain ⟨k, k1, -, k3⟩ := askS_n L (lvS L p e T j).1 1 p (some j) (some e)
      have h11 := h.2.2.2.2.2.2.2.2.2.2.1
      obtain ⟨y, y1, y2⟩ := h11 e j (by have := h.2.1; omega) (by omega)
      have hm : x * k / 1000 ≤ x := by
        rw [Nat.div_le_iff_le_mul_add_pred (by decide)]
        have : x * k ≤ x * 1000 := Nat.mul_le_mul_left x k1
        omega
      have hxk : x * k ≤ 90 * 1000 := Nat.mul_le_mul x1 k1
      have ed : iN x * iN k / 1000 = iN (x * k / 1000) := by rw [iN_mul, iN_lit 1000, iN_div (by omega) (by decide) (by decide)]
      rw [x2] at hz
      rw [iN_le0 (by omega)] at hz
      rw [x2, k3, i2 j (by omega) (by omega), y2, ed, iN_sub hm, iN_add]
      refine ⟨i1.shed hp (by omega) he (fun x' hx' hx => ?_) (by omega), fun f h1 h2 => ?_⟩
      · rw [x2] at hx
        have := (iN_inj (by omega) hx').mp hx
        omega
      · show up2 (up2 _ 29 _ _) 24 _ _ 24 (e * 10 + f) = _
        rw [up2_ne (by omega), up2_ne (by omega)]
        exact i2 f (by omega) h2
/-- cells that VTn doesn't speak of -/
theorem VTn.off {B n5 n6 n7 : Nat} {T : Ld} {c j : Nat} {x : Int32} (h : VTn B T n5 n6 n7) (hc : (c = 20 ∧ (j = 0 ∨ j = 1 ∨ j = 3 ∨ j = 4)) ∨ c = 28 ∨ c = 27 ∨ c = 23) : VTn B (up2 T c j x) n5 n6 n7 := by
  obtain ⟨h1, h2, h3, h4, h5, h6, h7, h8, h9, h10, h11, h12⟩ := h
  refine ⟨h1, h2, h3, ?_, ?_, ?_, ?_, fun g hg => ?_, fun q hq => ?_, fun q hq1 hq2 g hg => ?_, fun e2 g he2 hg => ?_, fun e2 g he2 hg hg2 => ?_⟩
  · rw [up2_ne (by omega)]; exact h4
  · rw [up2_ne (by omega)]; exact h5
  · rw [up2_ne (by omega)]; exact h6
  · rw [up2_ne (by omega)]; exact h7
  · rw [up2_ne (by omega)]; exact h8 g hg
  · obtain ⟨hm, s, b, c1, c2, c3, c4, c5, d1, d2, d3⟩ := h9 q hq
    exact ⟨hm, s, b, c1, by rw [up2_ne (by omega)]; exact c2, c3, c4, by rw [up2_ne (by omega)]; exact c5, fun g hg => by rw [up2_ne (by omega)]; exact d1 g hg, d2, d3⟩
  · rw [up2_ne (by omega)]; exact h10 q hq1 hq2 g hg
  · rw [up2_ne (by omega)]; exact h11 e2 g he2 hg
  · rw [up2_ne (by omega)]; exact h12 e2 g he2 hg hg2
theorem leaveS_v {L : Lw} {B n5 n6 n7 : Nat} {T : Ld} {p e : Nat} (h : VTn B T n5 n6 n7) (hp : p < n7) (he : e < n6) : VTn (B + 90) (leaveS L T p e).1 n5 n6 n7 := by
  unfold leaveS
  split
  · exact h.mono (by omega)
  · exact (lvS_v h hp he (Nat.le_refl 10)).1.off (Or.inl ⟨rfl, Or.inr (Or.inr (Or.inl rfl))⟩)
theorem nxt_lt {n e : Nat} (h : e < n) : nxt n e < n := by
  unfold nxt
  split <;> omega
theorem visitS_v {L : Lw} {B n5 n6 n7 : Nat} {T : Ld} {p e : Nat} {fs : List Nat} {real : Bool} (h : VTn B T n5 n6 n7) (hp : p < n7) (he : e < n6) (hf : ∀ f, f ∈ fs → f < n5) : VTn (B + 90) (visitS L T n6 p fs e real).1 n5 n6 n7 ∧ (visitS L T n6 p fs e real).2.2 < n6 := by
  have hw : (if (strS L (takeL L p T fs) p e real).2 = true then nxt n6 e else e) < n6 := by
    split
    · exact nxt_lt he
    · exact he
  exact ⟨VTn.off (leaveS_v (VTn.str (takeL_v hp h hf)) hp hw) (Or.inr (Or.inl rfl)), hw⟩
/-! the reference walks -/
abbrev Wm : Nat → Nat → Nat → Prop := fun c a j => c = 109 ∨ c = 110 ∨ (c = 100 ∧ j = 29) ∨ (c = 101 ∧ a = 0 ∧ j ≠ 6 ∧ (j < 229 ∨ (645 ≤ j ∧ j < 1245)))
theorem SgR.keep {W W2 : Nat → Int32} (h : ∀ k, 1309 ≤ k → W2 k = W k) : ∀ {cs : Cds} {i : Nat}, SgR W i cs → SgR W2 i cs
  | [], _, _ => trivial
  | (s, v) :: cs, i, hs => ⟨by rw [h _ (by omega)]; exact hs.1, fun z => by rw [h _ (by omega)]; exact hs.2.1 z, SgR.keep h hs.2.2⟩
theorem LawM.keep {W W2 : Nat → Int32} {L : Lw} (hL : LawM W L) (h0 : W2 232 = W 232) (h : ∀ k, 1245 ≤ k → W2 k = W k) : LawM W2 L := by
  refine ⟨by rw [h0]; exact hL.1, fun i w cv cc hi => ?_⟩
  obtain ⟨g1, f, m, t, g2, g3, g4, g5, g6, g7, g8, g9⟩ := hL.2 i w cv cc hi
  exact ⟨by rw [h _ (by omega)]; exact g1, f, m, t, by rw [h _ (by omega)]; exact g2, by rw [h _ (by omega)]; exact g3, by rw [h _ (by omega)]; exact g4, g5, g6, g7, g8.keep (fun k hk => h k (by omega)), g9.keep (fun k hk => h k (by omega))⟩
theorem LawM.kw {M M2 : Mem} {L : Lw} (h : LawM (M.1 101 0) L) (k : K3 Wm M M2) : LawM (M2.1 101 0) L := h.keep (k 101 0 232 (by simp [Wm])) (fun j hj => k 101 0 j (by simp only [Wm]; omega))
theorem TM_22 {M : Mem} {f : Nat} {x : Int32} (h : f < 10) : TM (st M 101 0 (7 + f) x) = up2 (TM M) 22 f x := by
  show TW ((st M 101 0 (7 + f) x).1 101 0) = _
  rw [w_st, TW_22 h]
theorem TM_24 {M : Mem} {f : Nat} {x : Int32} (h : f < 80) : TM (st M 101 0 (29 + f) x) = up2 (TM M) 24 f x := by
  show TW ((st M 101 0 (29 + f) x).1 101 0) = _
  rw [w_st, TW_24 h]
theorem TM_28 {M : Mem} {f : Nat} {x : Int32} (h : f < 12) : TM (st M 101 0 (17 + f) x) = up2 (TM M) 28 f x := by
  show TW ((st M 101 0 (17 + f) x).1 101 0) = _
  rw [w_st, TW_28 h]
theorem TM_29 {M : Mem} {f : Nat} {x : Int32} (h : f < 120) : TM (st M 101 0 (109 + f) x) = up2 (TM M) 29 f x := by
  show TW ((st M 101 0 (109 + f) x).1 101 0) = _
  rw [w_st, TW_29 h]
theorem TM_20_0 {M : Mem} {x : Int32} : TM (st M 101 0 4 x) = up2 (TM M) 20 0 x := by
  show TW ((st M 101 0 4 x).1 101 0) = _
  rw [w_st, TW_20_0]
theorem TM_20_3 {M : Mem} {x : Int32} : TM (st M 101 0 2 x) = up2 (TM M) 20 3 x := by
  show TW ((st M 101 0 2 x).1 101 0) = _
  rw [w_st, TW_20_3]
theorem TM_20_1 {M : Mem} {x : Int32} : TM (st M 101 0 0 x) = up2 (TM M) 20 1 x := by
  show TW ((st M 101 0 0 x).1 101 0) = _
  rw [w_st, TW_20_1]
theorem TM_20_2 {M : Mem} {x : Int32} : TM (st M 101 0 1 x) = up2 (TM M) 20 2 x := by
  show TW ((st M 101 0 1 x).1 101 0) = _
  rw [w_st, TW_20_2]
theorem TM_20_4 {M : Mem} {x : Int32} : TM (st M 101 0 3 x) = up2 (TM M) 20 4 x := by
  show TW ((st M 101 0 3 x).1 101 0) = _
  rw [w_st, TW_20_4]
theorem TM_st {M : Mem} {c a j : Nat} {x : Int32} (h : c ≠ 101) : TM (st M c a j x) = TM M := by
  show TW ((st M c a j x).1 101 0) = _
  rw [st_ne (fun z => h z.1.symm)]
theorem TM_book {M : Mem} {j : Nat} {x : Int32} (h : j = 5 ∨ 287 ≤ j) : TM (st M 101 0 j x) = TM M := by
  show TW ((st M 101 0 j x).1 101 0) = _
  rw [w_st, TW_off (by omega)]
theorem vt_m {B n5 n6 n7 : Nat} {M : Mem} (h : VTn B (TM M) n5 n6 n7) : M.1 101 0 229 = iN n5 ∧ M.1 101 0 230 = iN n6 ∧ M.1 101 0 231 = iN n7 ∧ n5 ≤ 10 ∧ n6 ≤ 8 ∧ n7 ≤ 12 := by
  obtain ⟨h1, h2, h3, h4, h5, h6, -⟩ := h
  exact ⟨(TW_c (c := 20) (j := 5) (by decide)).trans h4, (TW_c (c := 20) (j := 6) (by decide)).trans h5, (TW_c (c := 20) (j := 7) (by decide)).trans h6, h1, h2, h3⟩
theorem c214 {X : Cx} {d : Nat} {M : Mem} {B n5 n6 n7 p f : Nat} {L : Lw} (hL : LawM (M.1 101 0) L) (hT : LawT L) (hv : VTn B (TM M) n5 n6 n7) (hp : p < n7) (hf : f < n5) : ∃ M', CC X (d + 6) 214 [vR 100 0, vI (iN p), vI (iN f)] M none M' ∧ TM M' = takeS L (TM M) p f ∧ M'.1 101 0 5 = M.1 101 0 5 ∧ (∀ j, 645 ≤ j → M'.1 101 0 j = M.1 101 0 j) ∧ K3 Wm M M' := by
  obtain ⟨g5, g6, g7, q5, q6, q7⟩ := vt_m hv
  obtain ⟨M1, ca, ka⟩ := c208 (X := X) (d := d) (M := M) (p := p) (f := f) hL hT (by omega) (by omega)
  have w1 : M1.1 101 0 = M.1 101 0 := k3_col ka (fun _ => by simp)
  have eT : TM M1 = TM M := TM_k ka (fun _ => by simp)
  have cl := c206 (X := X) (d := d + 4) (M := M1) (p := p) (by omega)
  rw [eT] at cl
  have q7' : 7 + iN f = iN (7 + f) := by simp only [iN_lit, iN_add]
  have q263 : 263 + iN p = iN (263 + p) := by simp only [iN_lit, iN_add]
  have t22 : M.1 101 0 (7 + f) = TM M 22 f := TW_c (show okC 22 f = true by simp [okC]; omega)
  have t26 : M.1 101 0 (263 + p) = TM M 26 p := TW_c (show okC 26 p = true by simp [okC]; omega)
  have t29 : M.1 101 0 (109 + (p * 10 + f)) = TM M 29 (p * 10 + f) := TW_c (okT29 (by omega) (by omega))
  refine ⟨st (st M1 101 0 (7 + f) (TM M 22 f - mchS L (TM M) p f)) 101 0 (109 + (p * 10 + f)) (TM M 29 (p * 10 + f) + mchS L (TM M) p f), e214 (w214_0 ⟨_, _, ca, ?_⟩), ?_, ?_, ?_, ?_⟩
  · simp only [forall_eq, true_implies, false_implies, not_true_eq_false, not_false_eq_true, and_true, true_and, and_self, isB0, isB1, bI_t0, bI_f0, i10_, i20_, i01_, i02_, i12_, i21_, q7', q263, show inb (iN (7 + f)) 2129 from inb_of (by omega) (by decide), show inb (iN (263 + p)) 2129 from inb_of (by omega) (by decide), ix_of (show 7 + f < 2147483648 by omega), ix_of (show 263 + p < 2147483648 by omega), w1, t22, t26, iN_109, show inb (iN (109 + (p * 10 + f))) 2129 from inb_of (by omega) (by decide), ix_of (show 109 + (p * 10 + f) < 2147483648 by omega)]
    refine ⟨_, _, cl, _, _, c152, _, _, c152, ?_⟩
    rw [w1, t22, st_ne3 (by omega), w1, t29]
    rfl
  · rw [TM_29 (by omega), TM_22 (by omega), eT]
    rfl
  · rw [st_ne3 (by omega), st_ne3 (by omega), w1]
  · intro j hj
    rw [st_ne3 (by omega), st_ne3 (by omega), w1]
  · exact k3_trans (k3_trans (k3_sub ka (fun c a j z => z.elim Or.inl (fun y => Or.inr (Or.inl y)))) (k3_st (by right; right; right; exact ⟨rfl, rfl, by omega, by omega⟩))) (k3_st (by right; right; right; exact ⟨rfl, rfl, by omega, by omega⟩))
theorem lvS_tail {L : Lw} {T : Ld} {p e n : Nat} (h : ∀ f, n ≤ f → f < 10 → T 29 (p * 10 + f) = 0) : ∀ (t : Nat), n + t ≤ 10 → lvS L p e T (n + t) = lvS L p e T n
  | 0, _ => rfl
  | t + 1, ht => by
    rw [← lvS_tail h t (by omega)]
    show lvS L p e T (n + t + 1) = lvS L p e T (n + t)
    have hz : (lvS L p e T (n + t)).1 29 (p * 10 + (n + t)) ≤ 0 := by
      rw [lvS_keep (Or.inr ⟨rfl, Nat.le_refl _⟩), h (n + t) (by omega) (by omega)]
      decide
    exact if_pos hz
theorem c215 {X : Cx} {d : Nat} {M : Mem} {B n5 n6 n7 p e : Nat} {L : Lw} (hL : LawM (M.1 101 0) L) (hT : LawT L) (hv : VTn B (TM M) n5 n6 n7) (hp : p < n7) (he : e < n6) : ∃ M', CC X (d + 6) 215 [vR 100 0, vI (iN p), vI (iN e)] M (some (vI (leaveS L (TM M) p e).2)) M' ∧ TM M' = (leaveS L (TM M) p e).1 ∧ M'.1 101 0 5 = M.1 101 0 5 ∧ (∀ j, 645 ≤ j → M'.1 101 0 j = M.1 101 0 j) ∧ K3 Wm M M' ∧ M'.1 100 = M.1 100 := by
  obtain ⟨g5, g6, g7, q5, q6, q7⟩ := vt_m hv
  have i1 : inb 1 2129 := inb_l (by decide) (by decide)
  have x1 : ix 1 = 1 := ix_l (by decide)
  have t202 : M.1 101 0 1 = TM M 20 2 := TW_c (c := 20) (j := 2) (by decide)
  by_cases hno : TM M 20 2 = 1 ∨ TM M 23 e = 1
  · have es : leaveS L (TM M) p e = (TM M, 0) := if_pos hno
    rw [es]
    refine ⟨M, e215 (w215_0 ?_), rfl, rfl, fun _ _ => rfl, k3_refl, rfl⟩
    by_cases h1 : TM M 20 2 = 1
    · simp only [forall_eq, true_implies, false_implies, not_true_eq_false, not_false_eq_true, and_true, true_and, and_self, isB0, isB1, bI_t0, bI_f0, i10_, i20_, i01_, i02_, i12_, i21_, i1, x1, t202, h1]
    · have h2 := hno.resolve_left h1
      simp only [forall_eq, true_implies, false_implies, not_true_eq_false, not_false_eq_true, and_true, true_and, and_self, isB0, isB1, bI_t0, bI_f0, i10_, i20_, i01_, i02_, i12_, i21_, i1, x1, t202, h1]
      refine ⟨_, _, c158 (by omega), ?_⟩
      simp only [forall_eq, true_implies, false_implies, not_true_eq_false, not_false_eq_true, and_true, true_and, and_self, isB0, isB1, bI_t0, bI_f0, i10_, i20_, i01_, i02_, i12_, i21_, h2, if_true]
  · have es : leaveS L (TM M) p e = (up2 (lvS L p e (TM M) 10).1 20 3 ((lvS L p e (TM M) 10).1 20 3 + (lvS L p e (TM M) 10).2), (lvS L p e (TM M) 10).2) := if_neg hno
    rw [es]
    obtain ⟨hn1, hn2⟩ := not_or.mp hno
    have el : lvS L p e (TM M) 10 = lvS L p e (TM M) n5 := by
      have := lvS_tail (L := L) (T := TM M) (p := p) (e := e) (n := n5) (fun f h1 h2 => by
        obtain ⟨x, -, y, z⟩ := boot_n hv hp h2
        rw [y, z h1]; rfl) (10 - n5) (by omega)
      rwa [show n5 + (10 - n5) = 10 by omega] at this
    rw [el]
    obtain ⟨Mn, ⟨j1, j2, j3, j4, j5⟩, hV⟩ := for_fwd (n := n5) (M := M)
      (I := fun j Mj => TM Mj = (lvS L p e (TM M) j).1 ∧ Mj.1 101 0 5 = M.1 101 0 5 ∧ (∀ k, 645 ≤ k → Mj.1 101 0 k = M.1 101 0 k) ∧ K3 Wm M Mj ∧ Mj.1 100 = M.1 100)
      (St := fun j Mj Q => V X (d + 6) 215 25 [some (vR 100 0), some (vI (iN p)), some (vI (iN e)), some (vI (lvS L p e (TM M) j).2), some (vI (iN j)), none, none] [] Mj Q)
      (by
        rintro j Mj hj ⟨k1, k2, k3, k4, k5⟩
        have w229 : Mj.1 101 0 229 = iN n5 := by rw [k4 101 0 229 (by simp [Wm])]; exact g5
        have t29 : Mj.1 101 0 (109 + (p * 10 + j)) = TM Mj 29 (p * 10 + j) := TW_c (okT29 (by omega) (by omega))
        have t24 : Mj.1 101 0 (29 + (e * 10 + j)) = TM Mj 24 (e * 10 + j) := TW_c (okT24 (by omega) (by omega))
        have b1 : inb (iN (109 + (p * 10 + j))) 2129 := inb_of (by omega) (by decide)
        have b2 : inb (iN (29 + (e * 10 + j))) 2129 := inb_of (by omega) (by decide)
        have y1 : ix (iN (109 + (p * 10 + j))) = 109 + (p * 10 + j) := ix_of (by omega)
        have y2 : ix (iN (29 + (e * 10 + j))) = 29 + (e * 10 + j) := ix_of (by omega)
        have i229 : inb 229 2129 := inb_l (by decide) (by decide)
        have x229 : ix 229 = 229 := ix_l (by decide)
        have l1 : (iN n5 ≤ iN j) = False := nle_ (by omega) (by omega) hj
        obtain ⟨x, z1, z2, -⟩ := boot_n hv hp (show j < 10 by omega)
        have zj : TM Mj 29 (p * 10 + j) = iN x := by rw [k1, lvS_keep (Or.inr ⟨rfl, Nat.le_refl _⟩)]; exact z2
        by_cases hz : x = 0
        · have e1 : lvS L p e (TM M) (j + 1) = lvS L p e (TM M) j := if_pos (by rw [← k1, zj, hz]; decide)
          rw [e1]
          refine ⟨Mj, ⟨k1, k2, k3, k4, k5⟩, fun Q hQ => w215_25 ?_⟩
          simp only [forall_eq, true_implies, false_implies, not_true_eq_false, not_false_eq_true, and_true, true_and, and_self, isB0, isB1, bI_t0, bI_f0, i10_, i20_, i01_, i02_, i12_, i21_, i229, x229, w229, l1, iN_109, b1, y1, t29, zj, show (iN x = 0) = True from by rw [hz]; decide, iN_step]
          exact hQ
        · have e1 : lvS L p e (TM M) (j + 1) = (up2 (up2 (lvS L p e (TM M) j).1 29 (p * 10 + j) ((lvS L p e (TM M) j).1 29 (p * 10 + j) - (lvS L p e (TM M) j).1 29 (p * 10 + j) * askS L (lvS L p e (TM M) j).1 1 p (some j) (some e) / 1000)) 24 (e * 10 + j) ((lvS L p e (TM M) j).1 24 (e * 10 + j) + (lvS L p e (TM M) j).1 29 (p * 10 + j) * askS L (lvS L p e (TM M) j).1 1 p (some j) (some e) / 1000), (lvS L p e (TM M) j).2 + (lvS L p e (TM M) j).1 29 (p * 10 + j) * askS L (lvS L p e (TM M) j).1 1 p (some j) (some e) / 1000) := if_neg (by rw [← k1, zj, iN_le0 (by omega)]; exact hz)
          rw [e1]
          obtain ⟨M1, ca, ka⟩ := c209 (X := X) (d := d) (M := Mj) (p := p) (f := j) (e := e) (hL.kw k4) hT (by omega) (by omega) (by omega)
          have w1 : M1.1 101 0 = Mj.1 101 0 := k3_col ka (fun _ => by simp)
          have eT : TM M1 = TM Mj := TM_k ka (fun _ => by simp)
          refine ⟨st (st M1 101 0 (109 + (p * 10 + j)) (TM Mj 29 (p * 10 + j) - TM Mj 29 (p * 10 + j) * askS L (TM Mj) 1 p (some j) (some e) / 1000)) 101 0 (29 + (e * 10 + j)) (TM Mj 24 (e * 10 + j) + TM Mj 29 (p * 10 + j) * askS L (TM Mj) 1 p (some j) (some e) / 1000), ⟨?_, ?_, ?_, ?_, ?_⟩, fun Q hQ => w215_25 ?_⟩
          · rw [TM_24 (by omega), TM_29 (by omega), eT, k1]
          · rw [st_ne3 (by omega), st_ne3 (by omega), w1, k2]
          · intro k hk
            rw [st_ne3 (by omega), st_ne3 (by omega), w1, k3 k hk]
          · exact k3_trans (k3_trans (k3_trans k4 (k3_sub ka (fun c a j z => z.elim Or.inl (fun y => Or.inr (Or.inl y))))) (k3_st (by right; right; right; exact ⟨rfl, rfl, by omega, by omega⟩))) (k3_st (by right; right; right; exact ⟨rfl, rfl, by omega, by omega⟩))
          · rw [← k5]
            funext a j
            rw [st_ne3 (fun z => absurd z.1 (by decide)), st_ne3 (fun z => absurd z.1 (by decide))]
            exact ka 100 a j (by simp)
          · simp only [forall_eq, true_implies, false_implies, not_true_eq_false, not_false_eq_true, and_true, true_and, and_self, isB0, isB1, bI_t0, bI_f0, i10_, i20_, i01_, i02_, i12_, i21_, i229, x229, w229, l1, iN_109, b1, y1, t29, zj, iN_ne0 (show 0 < x by omega) (by omega), iN_step]
            refine ⟨_, _, ca, ?_⟩
            have m24 : ∀ u : Int32, (st M1 101 0 (109 + (p * 10 + j)) u).1 101 0 (29 + (e * 10 + j)) = TM Mj 24 (e * 10 + j) := fun u => by rw [st_ne3 (by omega), w1, t24]
            simp only [forall_eq, true_implies, false_implies, not_true_eq_false, not_false_eq_true, and_true, true_and, and_self, isB0, isB1, bI_t0, bI_f0, i10_, i20_, i01_, i02_, i12_, i21_, show ((1000 : Int32) = 0) = False from by decide, iN_29, b1, b2, y1, y2, w1, t29, m24]
            rw [← k1] at hQ
            rw [zj] at hQ ⊢
            exact hQ)
      ⟨rfl, rfl, fun _ _ => rfl, k3_refl, rfl⟩
    refine ⟨st Mn 101 0 2 ((lvS L p e (TM M) n5).1 20 3 + (lvS L p e (TM M) n5).2), e215 (w215_0 ?_), ?_, ?_, ?_, k3_trans j4 (k3_st (by simp [Wm])), ?_⟩
    · simp only [forall_eq, true_implies, false_implies, not_true_eq_false, not_false_eq_true, and_true, true_and, and_self, isB0, isB1, bI_t0, bI_f0, i10_, i20_, i01_, i02_, i12_, i21_, i1, x1, t202, hn1]
      refine ⟨_, _, c158 (by omega), ?_⟩
      simp only [forall_eq, true_implies, false_implies, not_true_eq_false, not_false_eq_true, and_true, true_and, and_self, isB0, isB1, bI_t0, bI_f0, i10_, i20_, i01_, i02_, i12_, i21_, hn2, if_false]
      refine hV _ (w215_25 ?_)
      have t3 : Mn.1 101 0 2 = (lvS L p e (TM M) n5).1 20 3 := by rw [← j1]; exact TW_c (c := 20) (j := 3) (by decide)
      simp only [forall_eq, true_implies, false_implies, not_true_eq_false, not_false_eq_true, and_true, true_and, and_self, isB0, isB1, bI_t0, bI_f0, i10_, i20_, i01_, i02_, i12_, i21_, show inb 229 2129 from inb_l (by decide) (by decide), show ix 229 = 229 from ix_l (by decide), show Mn.1 101 0 229 = iN n5 by rw [j4 101 0 229 (by simp [Wm])]; exact g5, yle_ (a := n5) (b := n5) (by omega) (by omega) (Nat.le_refl n5), show inb 2 2129 from inb_l (by decide) (by decide), show ix 2 = 2 from ix_l (by decide), t3]
    · rw [TM_20_3, j1]
    · rw [st_ne3 (by omega), j2]
    · intro k hk
      rw [st_ne3 (by omega), j3 k hk]
    · rw [← j5]
      funext a j
      exact st_ne3 (fun z => absurd z.1 (by decide))
