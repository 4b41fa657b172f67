/-! asks: the facts, and what the law says of them -/
def fct (T : Ld) (p : Nat) (f e : Option Nat) (s : Nat) : Int32 :=
  match s with
  | 1 => T 26 p
  | 2 => T 27 p
  | 3 => match f with | some f => T 21 f | none => 0
  | 4 => match f with | some f => T 22 f | none => 0
  | 5 => load T p
  | 6 => T 20 1
  | 7 => T 20 2
  | 8 => match e with | some e => T 23 e | none => 0
  | 9 => T 28 p
  | 10 => T 20 4
  | _ => 0
def askS (L : Lw) (T : Ld) (word p : Nat) (f e : Option Nat) : Int32 := clm (if word = 0 then 99 else 1000) ((lawV (fct T p f e) word L).getD (dfl word (T 26 p + T 20 1)))
theorem evS_congr {fa fb : Nat → Int32} {s v : Nat} {sk : List Int32} (h : ∀ s, 1 ≤ s → s ≤ 10 → fa s = fb s) : evS fa s v sk = evS fb s v sk := by
  unfold evS
  by_cases h0 : s = 0
  · rw [if_pos h0, if_pos h0]
  · rw [if_neg h0, if_neg h0]
    by_cases h1 : s ≤ 10
    · rw [if_pos h1, if_pos h1, h s (by omega) h1]
    · rw [if_neg h1, if_neg h1]
theorem ev_congr {fa fb : Nat → Int32} (h : ∀ s, 1 ≤ s → s ≤ 10 → fa s = fb s) : ∀ {cs : Cds} {sk : List Int32}, ev fa cs sk = ev fb cs sk
  | [], _ => rfl
  | (s, v) :: cs, sk => by
    show ev fa cs (evS fa s v sk) = ev fb cs (evS fb s v sk)
    rw [evS_congr h, ev_congr h]
theorem lawV_congr {fa fb : Nat → Int32} {word : Nat} (h : ∀ s, 1 ≤ s → s ≤ 10 → fa s = fb s) : ∀ {L : Lw}, lawV fa word L = lawV fb word L
  | [] => rfl
  | (w, cv, cc) :: r => by
    show (if w = word ∧ (cc = [] ∨ (ev fa cc []).headD 0 = 1) then some ((ev fa cv []).headD 0) else lawV fa word r) = (if w = word ∧ (cc = [] ∨ (ev fb cc []).headD 0 = 1) then some ((ev fb cv []).headD 0) else lawV fb word r)
    rw [ev_congr h, ev_congr h, lawV_congr h]
theorem TC12 {M : Mem} {a b j : Nat} {x : Int32} : TC (st M 12 b j x) a = TC M a := TC_off (Or.inl (fun _ => rfl))
theorem LawC.keep {M M2 : Mem} {l : Nat} {L : Lw} (h : LawC M l L) (h0 : M2.1 40 l 0 = M.1 40 l 0) (h1 : M2.1 42 l = M.1 42 l) (h2 : M2.1 43 l = M.1 43 l) (h3 : M2.1 44 l = M.1 44 l) (h4 : M2.1 45 l = M.1 45 l) (h5 : M2.1 46 l = M.1 46 l) : LawC M2 l L := ⟨by rw [h0]; exact h.1, fun i w cv cc hi => (h.2 i w cv cc hi).keep h1 h2 h3 h4 h5⟩
theorem ten {s : Nat} (h1 : 1 ≤ s) (h2 : s ≤ 10) : s = 1 ∨ s = 2 ∨ s = 3 ∨ s = 4 ∨ s = 5 ∨ s = 6 ∨ s = 7 ∨ s = 8 ∨ s = 9 ∨ s = 10 := by omega
theorem bI_wd {word : Nat} {A B : Prop} (hw : word ≤ 2) (h1 : ¬ word = 0 → A) (h2 : word = 0 → B) : (¬ iN (10010 + word) = 10010 → A) ∧ (iN (10010 + word) = 10010 → B) :=
  ⟨fun z => h1 (fun y => z (by rw [y]; rfl)), fun z => h2 (by
    have := (iN_inj (b := 10010) (by omega) (by decide)).mp z
    omega)⟩
/-- the facts of the class are laid -/
abbrev laidC (M : Mem) (a : Nat) (g : Nat → Int32) : Mem := st (st (st (st (st (st (st (st (st (st M 12 a 0 (g 1)) 12 a 1 (g 2)) 12 a 2 (g 3)) 12 a 3 (g 4)) 12 a 4 (g 5)) 12 a 5 (g 6)) 12 a 6 (g 7)) 12 a 7 (g 8)) 12 a 8 (g 9)) 12 a 9 (g 10)
theorem laidC_k {M : Mem} {a : Nat} {g : Nat → Int32} : K3 (fun c b _ => c = 12 ∧ b = a) M (laidC M a g) :=
  k3_trans (k3_trans (k3_trans (k3_trans (k3_trans (k3_trans (k3_trans (k3_trans (k3_trans (k3_st ⟨rfl, rfl⟩) (k3_st ⟨rfl, rfl⟩)) (k3_st ⟨rfl, rfl⟩)) (k3_st ⟨rfl, rfl⟩)) (k3_st ⟨rfl, rfl⟩)) (k3_st ⟨rfl, rfl⟩)) (k3_st ⟨rfl, rfl⟩)) (k3_st ⟨rfl, rfl⟩)) (k3_st ⟨rfl, rfl⟩)) (k3_st ⟨rfl, rfl⟩)
theorem laidC_f {M : Mem} {a : Nat} {g : Nat → Int32} {s : Nat} (h1 : 1 ≤ s) (h2 : s ≤ 10) : fC (laidC M a g) a s = g s := by
  rcases ten h1 h2 with rfl | rfl | rfl | rfl | rfl | rfl | rfl | rfl | rfl | rfl <;> simp [fC, laidC, st_rd]
theorem c89_law {X : Cx} {d : Nat} {M : Mem} {a word p : Nat} {L : Lw} {f e : Option Nat} (hw : word ≤ 2) (hL : LawC M 0 L) (hT : LawT L) : ∃ (r : Int32) (M' : Mem), CC X (d + 3) 5 [vR 40 0, vI (iN (10010 + word)), vR 12 a] (laidC M a (fct (TC M a) p f e)) (some (vI r)) M' ∧ clm (if word = 0 then 99 else 1000) r = askS L (TC M a) word p f e ∧ K3 (fun c b _ => (c = 12 ∧ b = a) ∨ c = 47) M M' := by
  have k := laidC_k (M := M) (a := a) (g := fct (TC M a) p f e)
  obtain ⟨M', c, k2⟩ := c5 (X := X) (d := d) (M := laidC M a (fct (TC M a) p f e)) (a := 0) (b := a) hw (hL.keep (k 40 0 0 (by simp)) (k3_col k (fun _ => by simp)) (k3_col k (fun _ => by simp)) (k3_col k (fun _ => by simp)) (k3_col k (fun _ => by simp)) (k3_col k (fun _ => by simp))) hT
  refine ⟨_, M', c, ?_, k3_trans (k3_sub k (fun c b j z => Or.inl z)) (k3_sub k2 (fun c b j z => Or.inr z))⟩
  rw [lawV_congr (fb := fct (TC M a) p f e) (fun s h1 h2 => laidC_f h1 h2)]
  have f1 : (laidC M a (fct (TC M a) p f e)).1 12 a 0 = TC M a 26 p := laidC_f (s := 1) (by decide) (by decide)
  have f6 : (laidC M a (fct (TC M a) p f e)).1 12 a 5 = TC M a 20 1 := laidC_f (s := 6) (by decide) (by decide)
  rw [f1, f6]
  rfl
theorem c89 {X : Cx} {d : Nat} {M : Mem} {a n word p : Nat} {pf pe : Int32} {L : Lw} {f e : Option Nat} (hw : word ≤ 2) (hL : LawC M 0 L) (hT : LawT L) (hn : n ≤ 12) (h7 : M.1 20 a 7 = iN n) (hp : p < n)
    (hf : match f with | some f => pf = iN f ∧ f < 10 ∧ has pf (M.1 20 a 5) 10 = true | none => has pf (M.1 20 a 5) 10 = false)
    (he : match e with | some e => pe = iN e ∧ e < 8 ∧ has pe (M.1 20 a 6) 8 = true | none => has pe (M.1 20 a 6) 8 = false) :
    ∃ M', CC X (d + 4) 89 [vR 11 a, vI (iN (10010 + word)), vI (iN p), vI pf, vI pe] M (some (vI (askS L (TC M a) word p f e))) M' ∧ K3 (fun c b _ => (c = 12 ∧ b = a) ∨ c = 47) M M' := by
  have hp12 : p < 12 := by omega
  have hasp : has (iN p) (iN n) 12 = true := has_of hp hn (by decide)
  have b12 : inb (iN p) 12 := inb_of hp12 (by decide)
  have xp : ix (iN p) = p := ix_of (by omega)
  obtain ⟨r, M', c, hr, hk⟩ := c89_law (X := X) (d := d) (M := M) (a := a) (p := p) (f := f) (e := e) hw hL hT
  refine ⟨M', e89 (w89_0 ⟨_, _, c57, ?_⟩), hk⟩
  have t26 : TC M a 26 p = M.1 26 a p := TC_rd (by simpa [okC] using hp12)
  have t27 : TC M a 27 p = M.1 27 a p := TC_rd (by simpa [okC] using hp12)
  have t28 : TC M a 28 p = M.1 28 a p := TC_rd (by simpa [okC] using hp12)
  have t201 : TC M a 20 1 = M.1 20 a 1 := TC20 (by decide)
  have t202 : TC M a 20 2 = M.1 20 a 2 := TC20 (by decide)
  have t204 : TC M a 20 4 = M.1 20 a 4 := TC20 (by decide)
  rw [h7, hasp]
  have i0 : inb 0 10 := inb_l (by decide) (by decide)
  have i1 : inb 1 10 := inb_l (by decide) (by decide)
  have i2 : inb 2 10 := inb_l (by decide) (by decide)
  have i3 : inb 3 10 := inb_l (by decide) (by decide)
  have i4 : inb 4 10 := inb_l (by decide) (by decide)
  have i5 : inb 5 10 := inb_l (by decide) (by decide)
  have i6 : inb 6 10 := inb_l (by decide) (by decide)
  have i7 : inb 7 10 := inb_l (by decide) (by decide)
  have i8 : inb 8 10 := inb_l (by decide) (by decide)
  have i9 : inb 9 10 := inb_l (by decide) (by decide)
  have x0 : ix 0 = 0 := ix_l (by decide)
  have x1 : ix 1 = 1 := ix_l (by decide)
  have x2 : ix 2 = 2 := ix_l (by decide)
  have x3 : ix 3 = 3 := ix_l (by decide)
  have x4 : ix 4 = 4 := ix_l (by decide)
  have x5 : ix 5 = 5 := ix_l (by decide)
  have x6 : ix 6 = 6 := ix_l (by decide)
  have x7 : ix 7 = 7 := ix_l (by decide)
  have x8 : ix 8 = 8 := ix_l (by decide)
  have x9 : ix 9 = 9 := ix_l (by decide)
  simp only [laidC, fct, t26, t27, t28, t201, t202, t204] at c
  cases f with
  | none =>
    have hf : has pf (M.1 20 a 5) 10 = false := hf
    cases e with
    | none =>
      have he : has pe (M.1 20 a 6) 8 = false := he
      simp only [forall_eq, true_implies, false_implies, not_true_eq_false, not_false_eq_true, and_true, true_and, and_self, isB0, isB1, bI_t0, bI_f0, i10_, i20_, i01_, i02_, i12_, i21_, b12, xp, i0, i1, i2, i3, i4, i5, i6, i7, i8, i9, x0, x1, x2, x3, x4, x5, x6, x7, x8, x9, st_rd, TC12, Nat.reduceEqDiff, false_and, if_false]
      refine ⟨_, _, c55, ?_⟩
      simp only [forall_eq, true_implies, false_implies, not_true_eq_false, not_false_eq_true, and_true, true_and, and_self, isB0, isB1, bI_t0, bI_f0, i10_, i20_, i01_, i02_, i12_, i21_, b12, xp, i0, i1, i2, i3, i4, i5, i6, i7, i8, i9, x0, x1, x2, x3, x4, x5, x6, x7, x8, x9, st_rd, TC12, Nat.reduceEqDiff, false_and, if_false, hf]
      refine ⟨_, _, c55, ?_⟩
      simp only [forall_eq, true_implies, false_implies, not_true_eq_false, not_false_eq_true, and_true, true_and, and_self, isB0, isB1, bI_t0, bI_f0, i10_, i20_, i01_, i02_, i12_, i21_, b12, xp, i0, i1, i2, i3, i4, i5, i6, i7, i8, i9, x0, x1, x2, x3, x4, x5, x6, x7, x8, x9, st_rd, TC12, Nat.reduceEqDiff, false_and, if_false, hf]
      refine ⟨_, _, c63, ?_⟩
      simp only [forall_eq, true_implies, false_implies, not_true_eq_false, not_false_eq_true, and_true, true_and, and_self, isB0, isB1, bI_t0, bI_f0, i10_, i20_, i01_, i02_, i12_, i21_, b12, xp, i0, i1, i2, i3, i4, i5, i6, i7, i8, i9, x0, x1, x2, x3, x4, x5, x6, x7, x8, x9, st_rd, TC12, Nat.reduceEqDiff, false_and, if_false, h7, hasp, if_true]
      refine ⟨_, _, c56, ?_⟩
      simp only [forall_eq, true_implies, false_implies, not_true_eq_false, not_false_eq_true, and_true, true_and, and_self, isB0, isB1, bI_t0, bI_f0, i10_, i20_, i01_, i02_, i12_, i21_, b12, xp, i0, i1, i2, i3, i4, i5, i6, i7, i8, i9, x0, x1, x2, x3, x4, x5, x6, x7, x8, x9, st_rd, TC12, Nat.reduceEqDiff, false_and, if_false, he]
      refine bI_wd hw (fun h0 => ?_) (fun h0 => ?_)
      · exact ⟨_, _, c, by rw [clm_c, ← hr, if_neg h0], rfl⟩
      · exact ⟨_, _, c, by rw [clm_c, ← hr, if_pos h0], rfl⟩
    | some e =>
      obtain ⟨rfl, he8, he⟩ := he
      have be : inb (iN e) 8 := inb_of he8 (by decide)
      have xe : ix (iN e) = e := ix_of (by omega)
      have t23 : TC M a 23 e = M.1 23 a e := TC_rd (by simpa [okC] using he8)
      simp only [t23] at c
      simp only [forall_eq, true_implies, false_implies, not_true_eq_false, not_false_eq_true, and_true, true_and, and_self, isB0, isB1, bI_t0, bI_f0, i10_, i20_, i01_, i02_, i12_, i21_, b12, xp, i0, i1, i2, i3, i4, i5, i6, i7, i8, i9, x0, x1, x2, x3, x4, x5, x6, x7, x8, x9, st_rd, TC12, Nat.reduceEqDiff, false_and, if_false, be, xe]
      refine ⟨_, _, c55, ?_⟩
      simp only [forall_eq, true_implies, false_implies, not_true_eq_false, not_false_eq_true, and_true, true_and, and_self, isB0, isB1, bI_t0, bI_f0, i10_, i20_, i01_, i02_, i12_, i21_, b12, xp, i0, i1, i2, i3, i4, i5, i6, i7, i8, i9, x0, x1, x2, x3, x4, x5, x6, x7, x8, x9, st_rd, TC12, Nat.reduceEqDiff, false_and, if_false, be, xe, hf]
      refine ⟨_, _, c55, ?_⟩
      simp only [forall_eq, true_implies, false_implies, not_true_eq_false, not_false_eq_true, and_true, true_and, and_self, isB0, isB1, bI_t0, bI_f0, i10_, i20_, i01_, i02_, i12_, i21_, b12, xp, i0, i1, i2, i3, i4, i5, i6, i7, i8, i9, x0, x1, x2, x3, x4, x5, x6, x7, x8, x9, st_rd, TC12, Nat.reduceEqDiff, false_and, if_false, be, xe, hf]
      refine ⟨_, _, c63, ?_⟩
      simp only [forall_eq, true_implies, false_implies, not_true_eq_false, not_false_eq_true, and_true, true_and, and_self, isB0, isB1, bI_t0, bI_f0, i10_, i20_, i01_, i02_, i12_, i21_, b12, xp, i0, i1, i2, i3, i4, i5, i6, i7, i8, i9, x0, x1, x2, x3, x4, x5, x6, x7, x8, x9, st_rd, TC12, Nat.reduceEqDiff, false_and, if_false, be, xe, h7, hasp, if_true]
      refine ⟨_, _, c56, ?_⟩
      simp only [forall_eq, true_implies, false_implies, not_true_eq_false, not_false_eq_true, and_true, true_and, and_self, isB0, isB1, bI_t0, bI_f0, i10_, i20_, i01_, i02_, i12_, i21_, b12, xp, i0, i1, i2, i3, i4, i5, i6, i7, i8, i9, x0, x1, x2, x3, x4, x5, x6, x7, x8, x9, st_rd, TC12, Nat.reduceEqDiff, false_and, if_false, be, xe, he]
      refine bI_wd hw (fun h0 => ?_) (fun h0 => ?_)
      · exact ⟨_, _, c, by rw [clm_c, ← hr, if_neg h0], rfl⟩
      · exact ⟨_, _, c, by rw [clm_c, ← hr, if_pos h0], rfl⟩
  | some f =>
    obtain ⟨rfl, hf10, hf⟩ := hf
    have bf : inb (iN f) 10 := inb_of hf10 (by decide)
    have xf : ix (iN f) = f := ix_of (by omega)
    have t21 : TC M a 21 f = M.1 21 a f := TC_rd (by simpa [okC] using hf10)
    have t22 : TC M a 22 f = M.1 22 a f := TC_rd (by simpa [okC] using hf10)
    simp only [t21, t22] at c
    cases e with
    | none =>
      have he : has pe (M.1 20 a 6) 8 = false := he
      simp only [forall_eq, true_implies, false_implies, not_true_eq_false, not_false_eq_true, and_true, true_and, and_self, isB0, isB1, bI_t0, bI_f0, i10_, i20_, i01_, i02_, i12_, i21_, b12, xp, i0, i1, i2, i3, i4, i5, i6, i7, i8, i9, x0, x1, x2, x3, x4, x5, x6, x7, x8, x9, st_rd, TC12, Nat.reduceEqDiff, false_and, if_false, bf, xf]
      refine ⟨_, _, c55, ?_⟩
      simp only [forall_eq, true_implies, false_implies, not_true_eq_false, not_false_eq_true, and_true, true_and, and_self, isB0, isB1, bI_t0, bI_f0, i10_, i20_, i01_, i02_, i12_, i21_, b12, xp, i0, i1, i2, i3, i4, i5, i6, i7, i8, i9, x0, x1, x2, x3, x4, x5, x6, x7, x8, x9, st_rd, TC12, Nat.reduceEqDiff, false_and, if_false, bf, xf, hf]
      refine ⟨_, _, c55, ?_⟩
      simp only [forall_eq, true_implies, false_implies, not_true_eq_false, not_false_eq_true, and_true, true_and, and_self, isB0, isB1, bI_t0, bI_f0, i10_, i20_, i01_, i02_, i12_, i21_, b12, xp, i0, i1, i2, i3, i4, i5, i6, i7, i8, i9, x0, x1, x2, x3, x4, x5, x6, x7, x8, x9, st_rd, TC12, Nat.reduceEqDiff, false_and, if_false, bf, xf, hf]
      refine ⟨_, _, c63, ?_⟩
      simp only [forall_eq, true_implies, false_implies, not_true_eq_false, not_false_eq_true, and_true, true_and, and_self, isB0, isB1, bI_t0, bI_f0, i10_, i20_, i01_, i02_, i12_, i21_, b12, xp, i0, i1, i2, i3, i4, i5, i6, i7, i8, i9, x0, x1, x2, x3, x4, x5, x6, x7, x8, x9, st_rd, TC12, Nat.reduceEqDiff, false_and, if_false, bf, xf, h7, hasp, if_true]
      refine ⟨_, _, c56, ?_⟩
      simp only [forall_eq, true_implies, false_implies, not_true_eq_false, not_false_eq_true, and_true, true_and, and_self, isB0, isB1, bI_t0, bI_f0, i10_, i20_, i01_, i02_, i12_, i21_, b12, xp, i0, i1, i2, i3, i4, i5, i6, i7, i8, i9, x0, x1, x2, x3, x4, x5, x6, x7, x8, x9, st_rd, TC12, Nat.reduceEqDiff, false_and, if_false, bf, xf, he]
      refine bI_wd hw (fun h0 => ?_) (fun h0 => ?_)
      · exact ⟨_, _, c, by rw [clm_c, ← hr, if_neg h0], rfl⟩
      · exact ⟨_, _, c, by rw [clm_c, ← hr, if_pos h0], rfl⟩
    | some e =>
      obtain ⟨rfl, he8, he⟩ := he
      have be : inb (iN e) 8 := inb_of he8 (by decide)
      have xe : ix (iN e) = e := ix_of (by omega)
      have t23 : TC M a 23 e = M.1 23 a e := TC_rd (by simpa [okC] using he8)
      simp only [t23] at c
      simp only [forall_eq, true_implies, false_implies, not_true_eq_false, not_false_eq_true, and_true, true_and, and_self, isB0, isB1, bI_t0, bI_f0, i10_, i20_, i01_, i02_, i12_, i21_, b12, xp, i0, i1, i2, i3, i4, i5, i6, i7, i8, i9, x0, x1, x2, x3, x4, x5, x6, x7, x8, x9, st_rd, TC12, Nat.reduceEqDiff, false_and, if_false, bf, xf, be, xe]
      refine ⟨_, _, c55, ?_⟩
      simp only [forall_eq, true_implies, false_implies, not_true_eq_false, not_false_eq_true, and_true, true_and, and_self, isB0, isB1, bI_t0, bI_f0, i10_, i20_, i01_, i02_, i12_, i21_, b12, xp, i0, i1, i2, i3, i4, i5, i6, i7, i8, i9, x0, x1, x2, x3, x4, x5, x6, x7, x8, x9, st_rd, TC12, Nat.reduceEqDiff, false_and, if_false, bf, xf, be, xe, hf]
      refine ⟨_, _, c55, ?_⟩
      simp only [forall_eq, true_implies, false_implies, not_true_eq_false, not_false_eq_true, and_true, true_and, and_self, isB0, isB1, bI_t0, bI_f0, i10_, i20_, i01_, i02_, i12_, i21_, b12, xp, i0, i1, i2, i3, i4, i5, i6, i7, i8, i9, x0, x1, x2, x3, x4, x5, x6, x7, x8, x9, st_rd, TC12, Nat.reduceEqDiff, false_and, if_false, bf, xf, be, xe, hf]
      refine ⟨_, _, c63, ?_⟩
      simp only [forall_eq, true_implies, false_implies, not_true_eq_false, not_false_eq_true, and_true, true_and, and_self, isB0, isB1, bI_t0, bI_f0, i10_, i20_, i01_, i02_, i12_, i21_, b12, xp, i0, i1, i2, i3, i4, i5, i6, i7, i8, i9, x0, x1, x2, x3, x4, x5, x6, x7, x8, x9, st_rd, TC12, Nat.reduceEqDiff, false_and, if_false, bf, xf, be, xe, h7, hasp, if_true]
      refine ⟨_, _, c56, ?_⟩
      simp only [forall_eq, true_implies, false_implies, not_true_eq_false, not_false_eq_true, and_true, true_and, and_self, isB0, isB1, bI_t0, bI_f0, i10_, i20_, i01_, i02_, i12_, i21_, b12, xp, i0, i1, i2, i3, i4, i5, i6, i7, i8, i9, x0, x1, x2, x3, x4, x5, x6, x7, x8, x9, st_rd, TC12, Nat.reduceEqDiff, false_and, if_false, bf, xf, be, xe, he]
      refine bI_wd hw (fun h0 => ?_) (fun h0 => ?_)
      · exact ⟨_, _, c, by rw [clm_c, ← hr, if_neg h0], rfl⟩
      · exact ⟨_, _, c, by rw [clm_c, ← hr, if_pos h0], rfl⟩
