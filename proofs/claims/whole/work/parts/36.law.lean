/-! a law: lines (word, value, condition), on both sides -/
abbrev Lw : Type := List (Nat × Cds × Cds)
def LnC (M : Mem) (l i w : Nat) (cv cc : Cds) : Prop := M.1 42 l i = iN (10010 + w) ∧ ∃ F Fm Fe : Nat, M.1 43 l i = iN F ∧ M.1 44 l i = iN Fm ∧ M.1 45 l i = iN Fe ∧ F + (tr cv).length = Fm ∧ Fm + (tr cc).length = Fe ∧ Fe ≤ 400 ∧ SgC (M.1 46 l) F (tr cv) ∧ SgC (M.1 46 l) Fm (tr cc)
def LnM (W : Nat → Int32) (i w : Nat) (cv cc : Cds) : Prop := W (1293 + i) = iN (20 + w) ∧ ∃ f m t : Nat, W (1245 + i) = iN f ∧ W (1261 + i) = iN m ∧ W (1277 + i) = iN t ∧ f + cv.length = m ∧ m + cc.length = t ∧ t ≤ 410 ∧ SgR W f cv ∧ SgR W m cc
def LnT (w : Nat) (cv cc : Cds) : Prop := w ≤ 2 ∧ Ty cv [] [false] ∧ (cc = [] ∨ Ty cc [] [true])
def LawC (M : Mem) (l : Nat) (L : Lw) : Prop := M.1 40 l 0 = iN L.length ∧ ∀ i w cv cc, L[i]? = some (w, cv, cc) → LnC M l i w cv cc
def LawM (W : Nat → Int32) (L : Lw) : Prop := W 232 = iN L.length ∧ ∀ i w cv cc, L[i]? = some (w, cv, cc) → LnM W i w cv cc
def LawT (L : Lw) : Prop := L.length ≤ 16 ∧ ∀ (i w : Nat) (cv cc : Cds), L[i]? = some (w, cv, cc) → LnT w cv cc
theorem LnC.keep {M M2 : Mem} {l i w : Nat} {cv cc : Cds} (h : LnC M l i w cv cc) (h1 : M2.1 42 l = M.1 42 l) (h2 : M2.1 43 l = M.1 43 l) (h3 : M2.1 44 l = M.1 44 l) (h4 : M2.1 45 l = M.1 45 l) (h5 : M2.1 46 l = M.1 46 l) : LnC M2 l i w cv cc := by
  unfold LnC
  rw [h1, h2, h3, h4, h5]
  exact h
/-- the first line that tells -/
def lawV (fa : Nat → Int32) (word : Nat) : Lw → Option Int32
  | [] => none
  | (w, cv, cc) :: r => if w = word ∧ (cc = [] ∨ (ev fa cc []).headD 0 = 1) then some ((ev fa cv []).headD 0) else lawV fa word r
theorem tr_nil {cc : Cds} : (tr cc).length = 0 ↔ cc = [] := by
  cases cc with
  | nil => simp [tr]
  | cons p cs =>
    obtain ⟨s, v⟩ := p
    have : (tr ((s, v) :: cs)).length = (tr1 s v).length + (tr cs).length := List.length_append
    have h1 : 0 < (tr1 s v).length := by
      unfold tr1
      split <;> simp
    constructor
    · intro h
      omega
    · intro h
      cases h
def dfl (word : Nat) (x : Int32) : Int32 := if word = 0 then x else if word = 1 then 500 else 0
theorem fC_keep {M M2 : Mem} {b : Nat} (h : K3 (fun c _ _ => c = 47) M M2) : fC M2 b = fC M b := by
  have : M2.1 12 b = M.1 12 b := k3_col h (fun _ => by decide)
  show (fun s => M2.1 12 b (s - 1)) = fun s => M.1 12 b (s - 1)
  rw [this]
theorem c5_run {X : Cx} {d a b n word : Nat} (hw : word ≤ 2) (hn : n ≤ 16) : ∀ (r : Lw) (i : Nat) (M : Mem), i + r.length = n → M.1 40 a 0 = iN n → (∀ j w cv cc, r[j]? = some (w, cv, cc) → LnC M a (i + j) w cv cc ∧ LnT w cv cc) →
    ∃ M', K3 (fun c _ _ => c = 47) M M' ∧ ∀ Q : Option Vl → Mem → Prop, Q (some (vI ((lawV (fC M b) word r).getD (dfl word (M.1 12 b 0 + M.1 12 b 5))))) M' → V X (d + 3) 5 2 [some (vR 40 a), some (vI (iN (10010 + word))), some (vR 12 b), some (vI (iN i))] [] M Q
  | [], i, M, hi, h0, hr => by
    refine ⟨M, k3_refl, fun Q hQ => w5_2 ?_⟩
    have hi : i = n := hi
    rw [h0]
    have hQ : Q (some (vI (dfl word (M.1 12 b 0 + M.1 12 b 5)))) M := hQ
    rcases (show word = 0 ∨ word = 1 ∨ word = 2 by omega) with rfl | rfl | rfl
    · simp only [forall_eq, true_implies, false_implies, not_true_eq_false, not_false_eq_true, and_true, true_and, and_self, isB0, isB1, bI_t0, bI_f0, i10_, i20_, i01_, i02_, i12_, i21_, yle_ (a := n) (b := i) (by omega) (by omega) (by omega), show (iN (10010 + 0) = 10010) = True from eq_true rfl, show inb 0 10 from inb_l (by decide) (by decide), show inb 5 10 from inb_l (by decide) (by decide), show ix 0 = 0 from ix_l (by decide), show ix 5 = 5 from ix_l (by decide)]
      exact hQ
    · simp only [forall_eq, true_implies, false_implies, not_true_eq_false, not_false_eq_true, and_true, true_and, and_self, isB0, isB1, bI_t0, bI_f0, i10_, i20_, i01_, i02_, i12_, i21_, yle_ (a := n) (b := i) (by omega) (by omega) (by omega), show (iN (10010 + 1) = 10010) = False from by decide, show (iN (10010 + 1) = 10011) = True from eq_true rfl]
      exact hQ
    · simp only [forall_eq, true_implies, false_implies, not_true_eq_false, not_false_eq_true, and_true, true_and, and_self, isB0, isB1, bI_t0, bI_f0, i10_, i20_, i01_, i02_, i12_, i21_, yle_ (a := n) (b := i) (by omega) (by omega) (by omega), show (iN (10010 + 2) = 10010) = False from by decide, show (iN (10010 + 2) = 10011) = False from by decide]
      exact hQ
  | (w, cv, cc) :: r, i, M, hi, h0, hr => by
    obtain ⟨⟨g1, F, Fm, Fe, g2, g3, g4, g5, g6, g7, g8, g9⟩, t1, t2, t3⟩ := hr 0 w cv cc rfl
    rw [Nat.add_zero] at g1 g2 g3 g4
    simp only [List.length_cons] at hi
    have hrec : ∀ M1, K3 (fun c _ _ => c = 47) M M1 → ∃ M', K3 (fun c _ _ => c = 47) M1 M' ∧ ∀ Q : Option Vl → Mem → Prop, Q (some (vI ((lawV (fC M b) word r).getD (dfl word (M.1 12 b 0 + M.1 12 b 5))))) M' → V X (d + 3) 5 2 [some (vR 40 a), some (vI (iN (10010 + word))), some (vR 12 b), some (vI (iN (i + 1)))] [] M1 Q := by
      intro M1 k1
      have := c5_run (X := X) (d := d) (a := a) (b := b) hw hn r (i + 1) M1 (by omega) (by rw [k1 40 a 0 (by simp)]; exact h0) (by
        intro j w cv cc hj
        have := hr (j + 1) w cv cc hj
        rw [show i + 1 + j = i + (j + 1) by omega]
        exact ⟨this.1.keep (k3_col k1 (fun _ => by decide)) (k3_col k1 (fun _ => by decide)) (k3_col k1 (fun _ => by decide)) (k3_col k1 (fun _ => by decide)) (k3_col k1 (fun _ => by decide)), this.2⟩)
      rw [fC_keep k1, k1 12 b 0 (by simp), k1 12 b 5 (by simp)] at this
      exact this
    have f1 : (iN n ≤ iN i) = False := nle_ (by omega) (by omega) (by omega)
    have f2 : (16 ≤ iN i) = False := nle_ (a := 16) (by decide) (by omega) (by omega)
    have f3 : inb (iN i) 16 := inb_of (by omega) (by decide)
    have f4 : ix (iN i) = i := ix_of (by omega)
    by_cases hww : w = word
    · subst hww
      have cval : ∀ M1, K3 (fun c _ _ => c = 47) M M1 → ∃ M', K3 (fun c _ _ => c = 47) M1 M' ∧ CC X (d + 2) 6 [vR 40 a, vI (iN F), vI (iN Fm), vR 12 b] M1 (some (vI ((ev (fC M b) cv []).headD 0))) M' := by
        intro M1 k1
        obtain ⟨x, M', e1, -, e2, e3⟩ := c6 (X := X) (d := d) (b := b) t2 g5 (by omega) (by rw [k3_col k1 (fun _ => by decide)]; exact g8)
        rw [fC_keep k1] at e1
        rw [e1]
        exact ⟨M', e3, e2⟩
      rcases t3 with rfl | t3
      · have hFe : Fe = Fm := by
          have : (tr []).length = 0 := rfl
          omega
        subst hFe
        obtain ⟨M', k, c⟩ := cval M k3_refl
        have el : lawV (fC M b) w ((w, cv, []) :: r) = some ((ev (fC M b) cv []).headD 0) := if_pos ⟨rfl, Or.inl rfl⟩
        refine ⟨M', k, fun Q hQ => w5_2 ?_⟩
        rw [el] at hQ
        simp only [forall_eq, true_implies, false_implies, not_true_eq_false, not_false_eq_true, and_true, true_and, and_self, isB0, isB1, bI_t0, bI_f0, i10_, i20_, i01_, i02_, i12_, i21_, h0, f1, f2, f3, f4, g1, g2, g3, g4]
        exact ⟨_, _, c, hQ⟩
      · have hne : ¬ cc = [] := by
          rintro rfl
          cases t3
        have hFe : Fm ≠ Fe := fun z => hne (tr_nil.mp (by omega))
        obtain ⟨y, M1, y1, y2, y3, y4⟩ := c6 (X := X) (d := d) (M := M) (b := b) (a := a) t3 g6 g7 g9
        rcases y2 rfl with rfl | rfl
        · have el : lawV (fC M b) w ((w, cv, cc) :: r) = lawV (fC M b) w r := by
            show (if w = w ∧ (cc = [] ∨ (ev (fC M b) cc []).headD 0 = 1) then _ else _) = _
            rw [if_neg]
            rintro ⟨-, z | z⟩
            · exact hne z
            · rw [y1] at z
              exact absurd z (by decide)
          obtain ⟨M', k, g⟩ := hrec M1 y4
          refine ⟨M', k3_trans y4 k, fun Q hQ => w5_2 ?_⟩
          rw [el] at hQ
          simp only [forall_eq, true_implies, false_implies, not_true_eq_false, not_false_eq_true, and_true, true_and, and_self, isB0, isB1, bI_t0, bI_f0, i10_, i20_, i01_, i02_, i12_, i21_, h0, f1, f2, f3, f4, g1, g2, g3, g4, neq_ (a := Fm) (b := Fe) (by omega) (by omega) hFe]
          refine ⟨_, _, y3, ?_⟩
          simp only [forall_eq, true_implies, false_implies, not_true_eq_false, not_false_eq_true, and_true, true_and, and_self, isB0, isB1, bI_t0, bI_f0, i10_, i20_, i01_, i02_, i12_, i21_, iN_step]
          exact g Q hQ
        · have el : lawV (fC M b) w ((w, cv, cc) :: r) = some ((ev (fC M b) cv []).headD 0) := if_pos ⟨rfl, Or.inr (by rw [y1]; rfl)⟩
          obtain ⟨M', k, c⟩ := cval M1 y4
          refine ⟨M', k3_trans y4 k, fun Q hQ => w5_2 ?_⟩
          rw [el] at hQ
          simp only [forall_eq, true_implies, false_implies, not_true_eq_false, not_false_eq_true, and_true, true_and, and_self, isB0, isB1, bI_t0, bI_f0, i10_, i20_, i01_, i02_, i12_, i21_, h0, f1, f2, f3, f4, g1, g2, g3, g4, neq_ (a := Fm) (b := Fe) (by omega) (by omega) hFe]
          refine ⟨_, _, y3, ?_⟩
          simp only [forall_eq, true_implies, false_implies, not_true_eq_false, not_false_eq_true, and_true, true_and, and_self, isB0, isB1, bI_t0, bI_f0, i10_, i20_, i01_, i02_, i12_, i21_, y4 43 a i (by simp), y4 44 a i (by simp), g2, g3]
          exact ⟨_, _, c, hQ⟩
    · have el : lawV (fC M b) word ((w, cv, cc) :: r) = lawV (fC M b) word r := if_neg (fun z => hww z.1)
      obtain ⟨M', k, g⟩ := hrec M k3_refl
      refine ⟨M', k, fun Q hQ => w5_2 ?_⟩
      rw [el] at hQ
      simp only [forall_eq, true_implies, false_implies, not_true_eq_false, not_false_eq_true, and_true, true_and, and_self, isB0, isB1, bI_t0, bI_f0, i10_, i20_, i01_, i02_, i12_, i21_, h0, f1, f2, f3, f4, g1, neq_ (a := 10010 + w) (b := 10010 + word) (by omega) (by omega) (by omega), iN_step]
      exact g Q hQ
theorem c5 {X : Cx} {d : Nat} {M : Mem} {a b word : Nat} {L : Lw} (hw : word ≤ 2) (h : LawC M a L) (ht : LawT L) : ∃ M', CC X (d + 3) 5 [vR 40 a, vI (iN (10010 + word)), vR 12 b] M (some (vI ((lawV (fC M b) word L).getD (dfl word (M.1 12 b 0 + M.1 12 b 5))))) M' ∧ K3 (fun c _ _ => c = 47) M M' := by
  obtain ⟨M', k, g⟩ := c5_run (X := X) (d := d) (a := a) (b := b) hw ht.1 L 0 M (by omega) h.1 (fun j w cv cc hj => by
    rw [Nat.zero_add]
    exact ⟨h.2 j w cv cc hj, ht.2 j w cv cc hj⟩)
  exact ⟨M', e5 (w5_0 (g _ ⟨rfl, rfl⟩)), k⟩
/-! the reference's -/
theorem c204 {X : Cx} {d : Nat} {M : Mem} {i w : Nat} {cv cc : Cds} (hi : i < 16) (h : LnM (M.1 101 0) i w cv cc) (ht : LnT w cv cc) : ∃ M', CC X (d + 3) 204 [vR 100 0, vI (iN i)] M (some (vI (bI (decide (cc = [] ∨ (ev (M.1 110 0) cc []).headD 0 = 1))))) M' ∧ K3 (fun c _ _ => c = 109) M M' := by
  obtain ⟨g1, f, m, t, g2, g3, g4, g5, g6, g7, g8, g9⟩ := h
  obtain ⟨t1, t2, t3⟩ := ht
  have e1 : 1277 + iN i = iN (1277 + i) := by simp only [iN_lit, iN_add]
  have e2 : 1261 + iN i = iN (1261 + i) := by simp only [iN_lit, iN_add]
  have b1 : inb (iN (1277 + i)) 2129 := inb_of (by omega) (by decide)
  have b2 : inb (iN (1261 + i)) 2129 := inb_of (by omega) (by decide)
  have x1 : ix (iN (1277 + i)) = 1277 + i := ix_of (by omega)
  have x2 : ix (iN (1261 + i)) = 1261 + i := ix_of (by omega)
  rcases t3 with rfl | t3
  · refine ⟨M, e204 (w204_0 ?_), k3_refl⟩
    have : t = m := g6.symm
    subst this
    simp only [forall_eq, true_implies, false_implies, not_true_eq_false, not_false_eq_true, and_true, true_and, and_self, isB0, isB1, bI_t0, bI_f0, i10_, i20_, i01_, i02_, i12_, i21_, e1, e2, b1, b2, x1, x2, g3, g4]
    simp [bI]
  · have hne : ¬ cc = [] := by
      rintro rfl
      cases t3
    have hmt : t ≠ m := fun z => hne (by
      have : cc.length = 0 := by omega
      exact List.eq_nil_of_length_eq_zero this)
    obtain ⟨y, M1, y1, y2, y3, y4⟩ := c203 (X := X) (d := d) (M := M) t3 g6 g7 g9
    refine ⟨M1, e204 (w204_0 ?_), y4⟩
    simp only [forall_eq, true_implies, false_implies, not_true_eq_false, not_false_eq_true, and_true, true_and, and_self, isB0, isB1, bI_t0, bI_f0, i10_, i20_, i01_, i02_, i12_, i21_, e1, e2, b1, b2, x1, x2, g3, g4, neq_ (a := t) (b := m) (by omega) (by omega) hmt]
    refine ⟨_, _, y3, ?_⟩
    rcases y2 rfl with rfl | rfl
    · simp only [forall_eq, true_implies, false_implies, not_true_eq_false, not_false_eq_true, and_true, true_and, and_self, isB0, isB1, bI_t0, bI_f0, i10_, i20_, i01_, i02_, i12_, i21_, y1, hne]
      simp [bI]
    · simp only [forall_eq, true_implies, false_implies, not_true_eq_false, not_false_eq_true, and_true, true_and, and_self, isB0, isB1, bI_t0, bI_f0, i10_, i20_, i01_, i02_, i12_, i21_, y1, hne]
      simp [bI]
def lsr (x y : Int32) : Int32 := if y ≤ x then y else x
theorem c152 {X : Cx} {d : Nat} {M : Mem} {x y : Int32} : CC X (d + 1) 152 [vI x, vI y] M (some (vI (lsr x y))) M :=
  e152 (w152_0 ⟨fun h => ⟨by rw [lsr, if_pos h], rfl⟩, fun h => ⟨by rw [lsr, if_neg h], rfl⟩⟩)
def clm (mo x : Int32) : Int32 := gtr 0 (lsr mo x)
theorem clm_c (mo x : Int32) : (if 0 < (if x < mo then x else mo) then (if x < mo then x else mo) else 0) = clm mo x := by
  unfold clm gtr lsr
  grind
theorem c205_run {X : Cx} {d n word : Nat} {wo mo : Int32} (hw : word ≤ 2) (hn : n ≤ 16) : ∀ (r : Lw) (i : Nat) (M : Mem), i + r.length = n → M.1 101 0 232 = iN n → (∀ j w cv cc, r[j]? = some (w, cv, cc) → LnM (M.1 101 0) (i + j) w cv cc ∧ LnT w cv cc) →
    ∃ M', K3 (fun c _ _ => c = 109) M M' ∧ ∀ Q : Option Vl → Mem → Prop, Q (some (vI (clm mo ((lawV (M.1 110 0) word r).getD wo)))) M' → V X (d + 4) 205 6 [some (vR 100 0), some (vI (iN (20 + word))), none, some (vI mo), some (vI wo), some (vI (iN i))] [] M Q
  | [], i, M, hi, h0, hr => by
    refine ⟨M, k3_refl, fun Q hQ => w205_6 ?_⟩
    have hi : i = n := hi
    simp only [forall_eq, true_implies, false_implies, not_true_eq_false, not_false_eq_true, and_true, true_and, and_self, isB0, isB1, bI_t0, bI_f0, i10_, i20_, i01_, i02_, i12_, i21_, show ix 232 = 232 from ix_l (by decide), show inb 232 2129 from inb_l (by decide) (by decide), h0, yle_ (a := n) (b := i) (by omega) (by omega) (by omega)]
    exact ⟨_, _, c152, _, _, c153, hQ⟩
  | (w, cv, cc) :: r, i, M, hi, h0, hr => by
    have hr0 := hr 0 w cv cc rfl
    rw [Nat.add_zero] at hr0
    obtain ⟨hm, ht⟩ := hr0
    simp only [List.length_cons] at hi
    obtain ⟨M1, k1, c1⟩ : ∃ M1, K3 (fun c _ _ => c = 109) M M1 ∧ CC X (d + 3) 204 [vR 100 0, vI (iN i)] M (some (vI (bI (decide (cc = [] ∨ (ev (M.1 110 0) cc []).headD 0 = 1))))) M1 := by
      obtain ⟨M1, a1, a2⟩ := c204 (X := X) (d := d) (M := M) (i := i) (by omega) hm ht
      exact ⟨M1, a2, a1⟩
    obtain ⟨g1, f, m, t, g2, g3, g4, g5, g6, g7, g8, g9⟩ := hm
    obtain ⟨t1, t2, t3⟩ := ht
    have hrec : ∀ M1, K3 (fun c _ _ => c = 109) M M1 → ∃ M', K3 (fun c _ _ => c = 109) M1 M' ∧ ∀ Q : Option Vl → Mem → Prop, Q (some (vI (clm mo ((lawV (M.1 110 0) word r).getD wo)))) M' → V X (d + 4) 205 6 [some (vR 100 0), some (vI (iN (20 + word))), none, some (vI mo), some (vI wo), some (vI (iN (i + 1)))] [] M1 Q := by
      intro M1 k1
      have w1 : M1.1 101 0 = M.1 101 0 := k3_col k1 (fun _ => by decide)
      have := c205_run (X := X) (d := d) (wo := wo) (mo := mo) hw hn r (i + 1) M1 (by omega) (by rw [w1]; exact h0) (by
        intro j w cv cc hj
        have := hr (j + 1) w cv cc hj
        rw [show i + 1 + j = i + (j + 1) by omega, w1]
        exact this)
      rw [show M1.1 110 0 = M.1 110 0 from k3_col k1 (fun _ => by decide)] at this
      exact this
    have e1 : 1293 + iN i = iN (1293 + i) := by simp only [iN_lit, iN_add]
    have e2 : 1261 + iN i = iN (1261 + i) := by simp only [iN_lit, iN_add]
    have e3 : 1245 + iN i = iN (1245 + i) := by simp only [iN_lit, iN_add]
    have b1 : inb (iN (1293 + i)) 2129 := inb_of (by omega) (by decide)
    have b2 : inb (iN (1261 + i)) 2129 := inb_of (by omega) (by decide)
    have b3 : inb (iN (1245 + i)) 2129 := inb_of (by omega) (by decide)
    have x1 : ix (iN (1293 + i)) = 1293 + i := ix_of (by omega)
    have x2 : ix (iN (1261 + i)) = 1261 + i := ix_of (by omega)
    have x3 : ix (iN (1245 + i)) = 1245 + i := ix_of (by omega)
    have f1 : (iN n ≤ iN i) = False := nle_ (by omega) (by omega) (by omega)
    have x4 : ix 232 = 232 := ix_l (by decide)
    have b4 : inb 232 2129 := inb_l (by decide) (by decide)
    by_cases hww : w = word
    · subst hww
      by_cases hc : cc = [] ∨ (ev (M.1 110 0) cc []).headD 0 = 1
      · have el : lawV (M.1 110 0) w ((w, cv, cc) :: r) = some ((ev (M.1 110 0) cv []).headD 0) := if_pos ⟨rfl, hc⟩
        have w1 : M1.1 101 0 = M.1 101 0 := k3_col k1 (fun _ => by decide)
        obtain ⟨x, M', y1, -, y3, y4⟩ := c203 (X := X) (d := d + 1) (M := M1) t2 g5 (by omega) (by rw [w1]; exact g8)
        rw [show M1.1 110 0 = M.1 110 0 from k3_col k1 (fun _ => by decide)] at y1
        refine ⟨M', k3_trans k1 y4, fun Q hQ => w205_6 ?_⟩
        rw [el, y1] at hQ
        simp only [forall_eq, true_implies, false_implies, not_true_eq_false, not_false_eq_true, and_true, true_and, and_self, isB0, isB1, bI_t0, bI_f0, i10_, i20_, i01_, i02_, i12_, i21_, x4, b4, h0, f1, e1, b1, x1, g1]
        refine ⟨_, _, c1, ?_⟩
        rw [decide_eq_true hc, w1]
        simp only [forall_eq, true_implies, false_implies, not_true_eq_false, not_false_eq_true, and_true, true_and, and_self, isB0, isB1, bI_t0, bI_f0, i10_, i20_, i01_, i02_, i12_, i21_, h0, f1, e2, e3, b2, b3, x2, x3, g2, g3]
        exact ⟨_, _, y3, _, _, c152, _, _, c153, hQ⟩
      · have el : lawV (M.1 110 0) w ((w, cv, cc) :: r) = lawV (M.1 110 0) w r := if_neg (fun z => hc z.2)
        obtain ⟨M', k, g⟩ := hrec M1 k1
        refine ⟨M', k3_trans k1 k, fun Q hQ => w205_6 ?_⟩
        rw [el] at hQ
        simp only [forall_eq, true_implies, false_implies, not_true_eq_false, not_false_eq_true, and_true, true_and, and_self, isB0, isB1, bI_t0, bI_f0, i10_, i20_, i01_, i02_, i12_, i21_, x4, b4, h0, f1, e1, b1, x1, g1]
        refine ⟨_, _, c1, ?_⟩
        rw [decide_eq_false hc]
        simp only [forall_eq, true_implies, false_implies, not_true_eq_false, not_false_eq_true, and_true, true_and, and_self, isB0, isB1, bI_t0, bI_f0, i10_, i20_, i01_, i02_, i12_, i21_, iN_step]
        exact g Q hQ
    · have el : lawV (M.1 110 0) word ((w, cv, cc) :: r) = lawV (M.1 110 0) word r := if_neg (fun z => hww z.1)
      obtain ⟨M', k, g⟩ := hrec M k3_refl
      refine ⟨M', k, fun Q hQ => w205_6 ?_⟩
      rw [el] at hQ
      simp only [forall_eq, true_implies, false_implies, not_true_eq_false, not_false_eq_true, and_true, true_and, and_self, isB0, isB1, bI_t0, bI_f0, i10_, i20_, i01_, i02_, i12_, i21_, x4, b4, h0, f1, e1, b1, x1, g1, neq_ (a := 20 + w) (b := 20 + word) (by omega) (by omega) (by omega), iN_step]
      exact g Q hQ
theorem c205 {X : Cx} {d : Nat} {M : Mem} {word : Nat} {L : Lw} {wo mo : Int32} (hw : word ≤ 2) (h : LawM (M.1 101 0) L) (ht : LawT L) : ∃ M', CC X (d + 4) 205 [vR 100 0, vI (iN (20 + word)), vI wo, vI mo] M (some (vI (clm mo ((lawV (M.1 110 0) word L).getD wo)))) M' ∧ K3 (fun c _ _ => c = 109) M M' := by
  obtain ⟨M', k, g⟩ := c205_run (X := X) (d := d) (wo := wo) (mo := mo) hw ht.1 L 0 M (by omega) h.1 (fun j w cv cc hj => by
    rw [Nat.zero_add]
    exact ⟨h.2 j w cv cc hj, ht.2 j w cv cc hj⟩)
  exact ⟨M', e205 (w205_0 (g _ ⟨rfl, rfl⟩)), k⟩
