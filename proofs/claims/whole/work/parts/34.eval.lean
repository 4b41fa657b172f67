/-! the law's code, and what it comes to: steps (s, v) as the reference lays them -/
def T1 (s v : Nat) (t t1 : List Bool) : Prop :=
  (s = 0 ∧ v ≤ 9999 ∧ t.length < 32 ∧ t1 = false :: t) ∨ (1 ≤ s ∧ s ≤ 10 ∧ v = 0 ∧ t.length < 32 ∧ t1 = false :: t) ∨
  (s = 26 ∧ 1 ≤ v ∧ v ≤ 9999 ∧ ∃ r : List Bool, r.length < 31 ∧ t = false :: r ∧ t1 = false :: r) ∨
  (s = 30 ∧ v = 0 ∧ ∃ r : List Bool, t = true :: r ∧ t1 = true :: r) ∨
  (23 ≤ s ∧ s ≤ 25 ∧ v = 0 ∧ ∃ r : List Bool, t = false :: false :: r ∧ t1 = false :: r) ∨
  (27 ≤ s ∧ s ≤ 29 ∧ v = 0 ∧ ∃ r : List Bool, t = false :: false :: r ∧ t1 = true :: r) ∨
  (31 ≤ s ∧ s ≤ 32 ∧ v = 0 ∧ ∃ r : List Bool, t = true :: true :: r ∧ t1 = true :: r)
abbrev Cds : Type := List (Nat × Nat)
def Ty : Cds → List Bool → List Bool → Prop
  | [], t, t' => t = t'
  | (s, v) :: cs, t, t' => ∃ t1, T1 s v t t1 ∧ Ty cs t1 t'
def opv (s : Nat) (a b : Int32) : Int32 :=
  if s = 23 then a + b else if s = 24 then a - b else if s = 25 then a * b else if s = 27 then (if a < b then 1 else 0) else if s = 28 then (if a = b then 1 else 0) else if s = 29 then (if b < a then 1 else 0) else if s = 31 then a &&& b else a ||| b
def evS (fa : Nat → Int32) (s v : Nat) (st : List Int32) : List Int32 :=
  if s = 0 then iN v :: st else if s ≤ 10 then fa s :: st else
  match st with
  | [] => []
  | b :: r => if s = 26 then (b / iN v) :: r else if s = 30 then (1 - b) :: r else
    match r with
    | [] => []
    | a :: r' => opv s a b :: r'
def ev (fa : Nat → Int32) : Cds → List Int32 → List Int32
  | [], st => st
  | (s, v) :: cs, st => ev fa cs (evS fa s v st)
def Tv : List Int32 → List Bool → Prop
  | [], [] => True
  | x :: xs, b :: bs => (b = true → x = 0 ∨ x = 1) ∧ Tv xs bs
  | _, _ => False
theorem Tv_len : ∀ {st : List Int32} {t : List Bool}, Tv st t → st.length = t.length
  | [], [], _ => rfl
  | _ :: xs, _ :: bs, h => by
    show xs.length + 1 = bs.length + 1
    rw [Tv_len h.2]
  | [], _ :: _, h => h.elim
  | _ :: _, [], h => h.elim
theorem Tv1 {st : List Int32} {b : Bool} {t : List Bool} (h : Tv st (b :: t)) : ∃ x r, st = x :: r ∧ (b = true → x = 0 ∨ x = 1) ∧ Tv r t := by
  cases st with
  | nil => exact h.elim
  | cons x r => exact ⟨x, r, rfl, h.1, h.2⟩
theorem T1_len {s v : Nat} {t t1 : List Bool} (h : T1 s v t t1) (ht : t.length ≤ 32) : t1.length ≤ 32 := by
  rcases h with ⟨-, -, h, rfl⟩ | ⟨-, -, -, h, rfl⟩ | ⟨-, -, -, r, h, rfl, rfl⟩ | ⟨-, -, r, rfl, rfl⟩ | ⟨-, -, -, r, rfl, rfl⟩ | ⟨-, -, -, r, rfl, rfl⟩ | ⟨-, -, -, r, rfl, rfl⟩ <;> simp only [List.length_cons] at * <;> omega
theorem evS_ty {fa : Nat → Int32} {s v : Nat} {t t1 : List Bool} {st : List Int32} (h : T1 s v t t1) (hv : Tv st t) : Tv (evS fa s v st) t1 := by
  have b01 : ∀ {x y : Int32}, (x = 0 ∨ x = 1) → (y = 0 ∨ y = 1) → ((x &&& y = 0 ∨ x &&& y = 1) ∧ (x ||| y = 0 ∨ x ||| y = 1)) := by
    rintro x y (rfl | rfl) (rfl | rfl) <;> decide
  rcases h with ⟨rfl, -, h, rfl⟩ | ⟨h1, h2, -, h, rfl⟩ | ⟨rfl, -, -, r, h, rfl, rfl⟩ | ⟨rfl, -, r, rfl, rfl⟩ | ⟨h1, h2, -, r, rfl, rfl⟩ | ⟨h1, h2, -, r, rfl, rfl⟩ | ⟨h1, h2, -, r, rfl, rfl⟩
  · exact ⟨fun z => absurd z (by decide), hv⟩
  · unfold evS
    rw [if_neg (by omega), if_pos h2]
    exact ⟨fun z => absurd z (by decide), hv⟩
  · obtain ⟨x, q, rfl, hx, hq⟩ := Tv1 hv
    exact ⟨fun z => absurd z (by decide), hq⟩
  · obtain ⟨x, q, rfl, hx, hq⟩ := Tv1 hv
    refine ⟨fun _ => ?_, hq⟩
    rcases hx rfl with rfl | rfl
    · exact Or.inr rfl
    · exact Or.inl rfl
  · obtain ⟨x, q, rfl, hx, hq⟩ := Tv1 hv
    obtain ⟨y, q, rfl, hy, hq⟩ := Tv1 hq
    unfold evS
    rw [if_neg (by omega), if_neg (by omega)]
    show Tv (if s = 26 then _ else if s = 30 then _ else _) _
    rw [if_neg (by omega), if_neg (by omega)]
    exact ⟨fun z => absurd z (by decide), hq⟩
  · obtain ⟨x, q, rfl, hx, hq⟩ := Tv1 hv
    obtain ⟨y, q, rfl, hy, hq⟩ := Tv1 hq
    unfold evS
    rw [if_neg (by omega), if_neg (by omega)]
    show Tv (if s = 26 then _ else if s = 30 then _ else _) _
    rw [if_neg (by omega), if_neg (by omega)]
    refine ⟨fun _ => ?_, hq⟩
    unfold opv
    rw [if_neg (by omega), if_neg (by omega), if_neg (by omega)]
    rcases (show s = 27 ∨ s = 28 ∨ s = 29 by omega) with rfl | rfl | rfl
    · rw [if_pos rfl]; split <;> simp
    · rw [if_neg (by decide), if_pos rfl]; split <;> simp
    · rw [if_neg (by decide), if_neg (by decide), if_pos rfl]; split <;> simp
  · obtain ⟨x, q, rfl, hx, hq⟩ := Tv1 hv
    obtain ⟨y, q, rfl, hy, hq⟩ := Tv1 hq
    unfold evS
    rw [if_neg (by omega), if_neg (by omega)]
    show Tv (if s = 26 then _ else if s = 30 then _ else _) _
    rw [if_neg (by omega), if_neg (by omega)]
    refine ⟨fun _ => ?_, hq⟩
    unfold opv
    rw [if_neg (by omega), if_neg (by omega), if_neg (by omega), if_neg (by omega), if_neg (by omega), if_neg (by omega)]
    have := b01 (hy rfl) (hx rfl)
    rcases (show s = 31 ∨ s = 32 by omega) with rfl | rfl
    · rw [if_pos rfl]; exact this.1
    · rw [if_neg (by decide)]; exact this.2
theorem ev_ty {fa : Nat → Int32} : ∀ {cs : Cds} {t t' : List Bool} {st : List Int32}, Ty cs t t' → Tv st t → Tv (ev fa cs st) t'
  | [], t, t', st, h, hv => by
    cases h
    exact hv
  | (s, v) :: cs, t, t', st, h, hv => by
    obtain ⟨t1, h1, h2⟩ := h
    exact (show Tv (ev fa cs (evS fa s v st)) t' from ev_ty h2 (evS_ty h1 hv))
/-! a pile in memory -/
def Stk (f : Nat → Int32) : List Int32 → Prop
  | [] => True
  | x :: r => f r.length = x ∧ Stk f r
theorem Stk_up {f : Nat → Int32} {k : Nat} {x : Int32} : ∀ {st : List Int32}, st.length ≤ k → Stk f st → Stk (upd f k x) st
  | [], _, _ => trivial
  | y :: r, hl, h => by
    simp only [List.length_cons] at hl
    exact ⟨by rw [upd_ne (by omega)]; exact h.1, Stk_up (by omega) h.2⟩
theorem Stk_push {f : Nat → Int32} {x : Int32} {st : List Int32} (h : Stk f st) : Stk (upd f st.length x) (x :: st) := ⟨upd_at, Stk_up (Nat.le_refl _) h⟩
theorem Stk_top {f : Nat → Int32} {x y : Int32} {r : List Int32} (h : Stk f (x :: r)) : Stk (upd f r.length y) (y :: r) := Stk_push h.2
theorem Stk_two {f : Nat → Int32} {x y z : Int32} {r : List Int32} (h : Stk f (x :: y :: r)) : Stk (upd f r.length z) (z :: r) := Stk_push h.2.2
def SgR (W : Nat → Int32) : Nat → Cds → Prop
  | _, [] => True
  | i, (s, v) :: cs => W (1309 + 2 * i) = iN s ∧ ((s = 0 ∨ s = 26) → W (1309 + 2 * i + 1) = iN v) ∧ SgR W (i + 1) cs
def SgC (f : Nat → Int32) : Nat → List Int32 → Prop
  | _, [] => True
  | i, x :: r => f i = x ∧ SgC f (i + 1) r
def tok (s v : Nat) : Int32 :=
  if s = 0 then iN v else if s ≤ 10 then iN (9999 + s) else if s = 23 then 20043 else if s = 24 then 20045 else if s = 25 then 20042 else if s = 27 then 20060 else if s = 28 then 20061 else if s = 29 then 20062 else if s = 30 then 10016 else if s = 31 then 10015 else 10014
def tr1 (s v : Nat) : List Int32 := if s = 26 then [iN v, 20047] else [tok s v]
def tr : Cds → List Int32
  | [] => []
  | (s, v) :: cs => tr1 s v ++ tr cs
theorem c202 {X : Cx} {d : Nat} {M : Mem} {s : Nat} {x y : Int32} (h : (23 ≤ s ∧ s ≤ 25) ∨ (27 ≤ s ∧ s ≤ 29) ∨ (31 ≤ s ∧ s ≤ 32)) : CC X (d + 1) 202 [vI (iN s), vI x, vI y] M (some (vI (opv s x y))) M := by
  refine e202 (w202_0 ?_)
  rcases (show s = 23 ∨ s = 24 ∨ s = 25 ∨ s = 27 ∨ s = 28 ∨ s = 29 ∨ s = 31 ∨ s = 32 by omega) with rfl | rfl | rfl | rfl | rfl | rfl | rfl | rfl <;> simp [opv, Int32.not_le] <;> grind
theorem c7 {X : Cx} {d : Nat} {M : Mem} {s : Nat} {x y : Int32} (h : (23 ≤ s ∧ s ≤ 25) ∨ (27 ≤ s ∧ s ≤ 29) ∨ (31 ≤ s ∧ s ≤ 32)) : CC X (d + 1) 7 [vI (tok s 0), vI x, vI y] M (some (vI (opv s x y))) M := by
  refine e7 (w7_0 ?_)
  rcases (show s = 23 ∨ s = 24 ∨ s = 25 ∨ s = 27 ∨ s = 28 ∨ s = 29 ∨ s = 31 ∨ s = 32 by omega) with rfl | rfl | rfl | rfl | rfl | rfl | rfl | rfl <;> simp [opv, tok, Int32.not_le] <;> grind
theorem c7p {X : Cx} {d : Nat} {M : Mem} {x y : Int32} (h : ¬ y = 0) : CC X (d + 1) 7 [vI 20047, vI x, vI y] M (some (vI (x / y))) M := by
  refine e7 (w7_0 ?_)
  simp [h]
theorem k3_col {P : Nat → Nat → Nat → Prop} {M M2 : Mem} {c a : Nat} (h : K3 P M M2) (hp : ∀ j, ¬ P c a j) : M2.1 c a = M.1 c a := funext fun j => h c a j (hp j)
theorem nlt0 {n : Nat} (h : n < 2147483648) : (iN n < 0) = False := eq_false (fun z => absurd (Int32.not_lt.mpr (iN_nn h)) (fun y => y z))
theorem nle_ {a b : Nat} (ha : a < 2147483648) (hb : b < 2147483648) (h : b < a) : (iN a ≤ iN b) = False := eq_false (fun z => absurd ((iN_le ha hb).mp z) (by omega))
theorem yle_ {a b : Nat} (ha : a < 2147483648) (hb : b < 2147483648) (h : a ≤ b) : (iN a ≤ iN b) = True := eq_true ((iN_le ha hb).mpr h)
theorem ylt_ {a b : Nat} (ha : a < 2147483648) (hb : b < 2147483648) (h : a < b) : (iN a < iN b) = True := eq_true ((iN_lt ha hb).mpr h)
theorem nlt_ {a b : Nat} (ha : a < 2147483648) (hb : b < 2147483648) (h : b ≤ a) : (iN a < iN b) = False := eq_false (fun z => absurd ((iN_lt ha hb).mp z) (by omega))
theorem neq_ {a b : Nat} (ha : a < 2147483648) (hb : b < 2147483648) (h : a ≠ b) : (iN a = iN b) = False := eq_false (fun z => h ((iN_inj ha hb).mp z))
/-- one step of the reference's -/
theorem c203_one {X : Cx} {d : Nat} {M : Mem} {s v i E : Nat} {t t1 : List Bool} {sk : List Int32} (h : T1 s v t t1) (hv : Tv sk t) (ht : t.length ≤ 32) (hi : i < E) (hE : E ≤ 410) (hs : M.1 101 0 (1309 + 2 * i) = iN s) (hs2 : (s = 0 ∨ s = 26) → M.1 101 0 (1309 + 2 * i + 1) = iN v) (hk : Stk (M.1 109 0) sk) :
    ∃ M', Stk (M'.1 109 0) (evS (M.1 110 0) s v sk) ∧ K3 (fun c _ _ => c = 109) M M' ∧ ∀ Q, V X (d + 2) 203 6 [some (vR 100 0), some (vI 0), none, some (vI (iN E)), some (vI (iN (evS (M.1 110 0) s v sk).length)), some (vI (iN (i + 1))), none, none] [] M' Q → V X (d + 2) 203 6 [some (vR 100 0), some (vI 0), none, some (vI (iN E)), some (vI (iN sk.length)), some (vI (iN i)), none, none] [] M Q := by
  have hl := Tv_len hv
  have e1 : (1309 + (820 * 0)) + (2 * iN i) = iN (1309 + 2 * i) := by simp only [iN_lit, iN_mul, iN_add, Nat.mul_zero, Nat.add_zero]
  have e2 : iN (1309 + 2 * i) + 1 = iN (1309 + 2 * i + 1) := iN_step _
  have hEi := nle_ (a := E) (b := i) (by omega) (by omega) hi
  have b1 : inb (iN (1309 + 2 * i)) 2129 := inb_of (by omega) (by decide)
  have b2 : inb (iN (1309 + 2 * i + 1)) 2129 := inb_of (by omega) (by decide)
  have x1 : ix (iN (1309 + 2 * i)) = 1309 + 2 * i := ix_of (by omega)
  have x2 : ix (iN (1309 + 2 * i + 1)) = 1309 + 2 * i + 1 := ix_of (by omega)
  rcases h with ⟨rfl, h1, h2, rfl⟩ | ⟨h1, h2, -, h3, rfl⟩ | ⟨rfl, h1, h2, r, h3, rfl, rfl⟩ | ⟨rfl, -, r, rfl, rfl⟩ | h
  · refine ⟨st M 109 0 sk.length (iN v), by rw [st_eq]; exact Stk_push hk, k3_st rfl, fun Q hQ => w203_6 ?_⟩
    have hQ : V X (d + 2) 203 6 [some (vR 100 0), some (vI 0), none, some (vI (iN E)), some (vI (iN (sk.length + 1))), some (vI (iN (i + 1))), none, none] [] (st M 109 0 sk.length (iN v)) Q := hQ
    simp only [forall_eq, true_implies, false_implies, not_true_eq_false, not_false_eq_true, and_true, true_and, and_self, isB0, isB1, bI_t0, bI_f0, i10_, i20_, i01_, i02_, i12_, i21_, e1, e2, hEi, b1, b2, x1, x2, hs, hs2 (Or.inl rfl), show (23 ≤ iN 0) = False from nle_ (a := 23) (by decide) (by decide) (by decide), show (iN 0 = 0) = True from eq_true rfl, show inb (iN sk.length) 420 from inb_of (by omega) (by decide), ix_of (show sk.length < 2147483648 by omega), iN_step]
    exact hQ
  · have he : evS (M.1 110 0) s v sk = M.1 110 0 s :: sk := by
      unfold evS
      rw [if_neg (by omega), if_pos h2]
    rw [he]
    refine ⟨st M 109 0 sk.length (M.1 110 0 s), by rw [st_eq]; exact Stk_push hk, k3_st rfl, fun Q hQ => w203_6 ?_⟩
    have hQ : V X (d + 2) 203 6 [some (vR 100 0), some (vI 0), none, some (vI (iN E)), some (vI (iN (sk.length + 1))), some (vI (iN (i + 1))), none, none] [] (st M 109 0 sk.length (M.1 110 0 s)) Q := hQ
    simp only [forall_eq, true_implies, false_implies, not_true_eq_false, not_false_eq_true, and_true, true_and, and_self, isB0, isB1, bI_t0, bI_f0, i10_, i20_, i01_, i02_, i12_, i21_, e1, e2, hEi, b1, b2, x1, x2, hs, show (23 ≤ iN s) = False from nle_ (a := 23) (by decide) (by omega) (by omega), iN_ne0 (show 0 < s by omega) (by omega), show inb (iN s) 11 from inb_of (by omega) (by decide), ix_of (show s < 2147483648 by omega), show inb (iN sk.length) 420 from inb_of (by omega) (by decide), ix_of (show sk.length < 2147483648 by omega), iN_step]
    exact hQ
  · obtain ⟨x, q, rfl, -, hq⟩ := Tv1 hv
    have hl2 := Tv_len hq
    refine ⟨st M 109 0 q.length (x / iN v), by rw [st_eq]; exact Stk_top hk, k3_st rfl, fun Q hQ => w203_6 ?_⟩
    have hQ : V X (d + 2) 203 6 [some (vR 100 0), some (vI 0), none, some (vI (iN E)), some (vI (iN (q.length + 1))), some (vI (iN (i + 1))), none, none] [] (st M 109 0 q.length (x / iN v)) Q := hQ
    simp only [forall_eq, true_implies, false_implies, not_true_eq_false, not_false_eq_true, and_true, true_and, and_self, isB0, isB1, bI_t0, bI_f0, i10_, i20_, i01_, i02_, i12_, i21_, e1, e2, hEi, b1, b2, x1, x2, hs, hs2 (Or.inr rfl), show (23 ≤ iN 26) = True from yle_ (a := 23) (by decide) (by decide) (by decide), show (iN 26 = 26) = True from eq_true rfl, List.length_cons, iN_pred, show inb (iN q.length) 420 from inb_of (by omega) (by decide), ix_of (show q.length < 2147483648 by omega), iN_ne0 (show 0 < v by omega) (by omega), hk.1, iN_step]
    exact hQ
  · obtain ⟨x, q, rfl, -, hq⟩ := Tv1 hv
    have hl2 := Tv_len hq
    simp only [List.length_cons] at ht
    refine ⟨st M 109 0 q.length (1 - x), by rw [st_eq]; exact Stk_top hk, k3_st rfl, fun Q hQ => w203_6 ?_⟩
    have hQ : V X (d + 2) 203 6 [some (vR 100 0), some (vI 0), none, some (vI (iN E)), some (vI (iN (q.length + 1))), some (vI (iN (i + 1))), none, none] [] (st M 109 0 q.length (1 - x)) Q := hQ
    simp only [forall_eq, true_implies, false_implies, not_true_eq_false, not_false_eq_true, and_true, true_and, and_self, isB0, isB1, bI_t0, bI_f0, i10_, i20_, i01_, i02_, i12_, i21_, e1, e2, hEi, b1, b2, x1, x2, hs, show (23 ≤ iN 30) = True from yle_ (a := 23) (by decide) (by decide) (by decide), show (iN 30 = 26) = False from neq_ (b := 26) (by decide) (by decide) (by decide), show (iN 30 = 30) = True from eq_true rfl, List.length_cons, iN_pred, show inb (iN q.length) 420 from inb_of (by omega) (by decide), ix_of (show q.length < 2147483648 by omega), hk.1, iN_step]
    exact hQ
  · have hh : ((23 ≤ s ∧ s ≤ 25) ∨ (27 ≤ s ∧ s ≤ 29) ∨ (31 ≤ s ∧ s ≤ 32)) ∧ ∃ b1 b2 r, t = b1 :: b2 :: r := by
      rcases h with ⟨h1, h2, -, r, rfl, rfl⟩ | ⟨h1, h2, -, r, rfl, rfl⟩ | ⟨h1, h2, -, r, rfl, rfl⟩
      · exact ⟨Or.inl ⟨h1, h2⟩, _, _, r, rfl⟩
      · exact ⟨Or.inr (Or.inl ⟨h1, h2⟩), _, _, r, rfl⟩
      · exact ⟨Or.inr (Or.inr ⟨h1, h2⟩), _, _, r, rfl⟩
    obtain ⟨hr, c1, c2, r, rfl⟩ := hh
    obtain ⟨x, q, rfl, -, hq⟩ := Tv1 hv
    obtain ⟨y, q, rfl, -, hq⟩ := Tv1 hq
    have hl2 := Tv_len hq
    simp only [List.length_cons] at ht
    have he : evS (M.1 110 0) s v (x :: y :: q) = opv s y x :: q := by
      unfold evS
      rw [if_neg (by omega), if_neg (by omega)]
      show (if s = 26 then _ else if s = 30 then _ else _) = _
      rw [if_neg (by omega), if_neg (by omega)]
    rw [he]
    refine ⟨st M 109 0 q.length (opv s y x), by rw [st_eq]; exact Stk_two hk, k3_st rfl, fun Q hQ => w203_6 ?_⟩
    have hQ : V X (d + 2) 203 6 [some (vR 100 0), some (vI 0), none, some (vI (iN E)), some (vI (iN (q.length + 1))), some (vI (iN (i + 1))), none, none] [] (st M 109 0 q.length (opv s y x)) Q := hQ
    simp only [forall_eq, true_implies, false_implies, not_true_eq_false, not_false_eq_true, and_true, true_and, and_self, isB0, isB1, bI_t0, bI_f0, i10_, i20_, i01_, i02_, i12_, i21_, e1, e2, hEi, b1, b2, x1, x2, hs, show (23 ≤ iN s) = True from yle_ (a := 23) (by decide) (by omega) (by omega), show (iN s = 26) = False from neq_ (b := 26) (by omega) (by decide) (by omega), show (iN s = 30) = False from neq_ (b := 30) (by omega) (by decide) (by omega), List.length_cons, iN_m1, iN_pred, show inb (iN q.length) 420 from inb_of (by omega) (by decide), show inb (iN (q.length + 1)) 420 from inb_of (by omega) (by decide), ix_of (show q.length < 2147483648 by omega), ix_of (show q.length + 1 < 2147483648 by omega), show M.1 109 0 (q.length + 1) = x from hk.1, show M.1 109 0 q.length = y from hk.2.1, iN_step]
    exact ⟨_, _, c202 hr, hQ⟩
theorem c203_run {X : Cx} {d : Nat} : ∀ (cs : Cds) (i E : Nat) (sk : List Int32) (t t' : List Bool) (M : Mem), Ty cs t t' → Tv sk t → t.length ≤ 32 → i + cs.length ≤ E → E ≤ 410 → SgR (M.1 101 0) i cs → Stk (M.1 109 0) sk →
    ∃ M', Stk (M'.1 109 0) (ev (M.1 110 0) cs sk) ∧ K3 (fun c _ _ => c = 109) M M' ∧ ∀ Q, V X (d + 2) 203 6 [some (vR 100 0), some (vI 0), none, some (vI (iN E)), some (vI (iN (ev (M.1 110 0) cs sk).length)), some (vI (iN (i + cs.length))), none, none] [] M' Q → V X (d + 2) 203 6 [some (vR 100 0), some (vI 0), none, some (vI (iN E)), some (vI (iN sk.length)), some (vI (iN i)), none, none] [] M Q
  | [], i, E, sk, t, t', M, _, _, _, _, _, _, hk => ⟨M, hk, k3_refl, fun _ h => h⟩
  | (s, v) :: cs, i, E, sk, t, t', M, hT, hv, ht, hi, hE, hs, hk => by
    obtain ⟨t1, h1, h2⟩ := hT
    simp only [List.length_cons] at hi
    obtain ⟨M1, k1, f1, g1⟩ := c203_one (X := X) (d := d) h1 hv ht (show i < E by omega) hE hs.1 hs.2.1 hk
    have w1 : M1.1 101 0 = M.1 101 0 := k3_col f1 (fun _ => by decide)
    have w2 : M1.1 110 0 = M.1 110 0 := k3_col f1 (fun _ => by decide)
    obtain ⟨M2, k2, f2, g2⟩ := c203_run (X := X) (d := d) cs (i + 1) E _ t1 t' M1 h2 (evS_ty h1 hv) (T1_len h1 ht) (by omega) hE (by rw [w1]; exact hs.2.2) k1
    rw [w2] at k2 g2
    refine ⟨M2, k2, k3_trans f1 f2, fun Q hQ => g1 Q (g2 Q ?_)⟩
    have e : i + 1 + cs.length = i + ((s, v) :: cs).length := by simp only [List.length_cons]; omega
    rw [e]
    exact hQ
theorem c203 {X : Cx} {d : Nat} {M : Mem} {cs : Cds} {b : Bool} {i E : Nat} (hT : Ty cs [] [b]) (hi : i + cs.length = E) (hE : E ≤ 410) (hs : SgR (M.1 101 0) i cs) : ∃ x M', ev (M.1 110 0) cs [] = [x] ∧ (b = true → x = 0 ∨ x = 1) ∧ CC X (d + 2) 203 [vR 100 0, vI 0, vI (iN i), vI (iN E)] M (some (vI x)) M' ∧ K3 (fun c _ _ => c = 109) M M' := by
  have hv := ev_ty (fa := M.1 110 0) hT (st := []) trivial
  obtain ⟨x, r, hx, hb, hr⟩ := Tv1 hv
  have hr0 : r = [] := by
    cases r with
    | nil => rfl
    | cons _ _ => exact hr.elim
  subst hr0
  obtain ⟨M', k, f, g⟩ := c203_run (X := X) (d := d) cs i E [] [] [b] M hT trivial (by decide) (by omega) hE hs trivial
  rw [hx] at k g
  refine ⟨x, M', hx, hb, e203 (w203_0 (g _ (w203_6 ?_))), f⟩
  rw [hi]
  simp only [forall_eq, true_implies, false_implies, not_true_eq_false, not_false_eq_true, and_true, true_and, and_self, isB0, isB1, bI_t0, bI_f0, i10_, i20_, i01_, i02_, i12_, i21_, yle_ (a := E) (b := E) (by omega) (by omega) (Nat.le_refl E), show inb 0 420 from inb_l (by decide) (by decide), show ix 0 = 0 from ix_l (by decide), show M'.1 109 0 0 = x from k.1]
