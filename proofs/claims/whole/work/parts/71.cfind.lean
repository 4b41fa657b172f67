/-! the class finds its tokens -/
def sBy (i : Nat) : List Nat := ((qST.getD i (0, 0, "")).2.2).toList.map Char.toNat
def StrOk (X : Cx) : Prop := (∀ (d : Nat) (M : Mem) (i : Nat), i < 24 → CC X (d + 3) 276 [vR 1 i] M (some (vI (iN (sBy i).length))) M) ∧ ∀ (d : Nat) (M : Mem) (i k : Nat), i < 24 → k < (sBy i).length → CC X (d + 3) 275 [vR 1 i, vI (iN k)] M (some (vI (iN ((sBy i).getD k 0)))) M
/-- where the words begin in the class's list -/
def wst : List Nat := [0,5,10,15,20,25,29,35,41,48,52,58,65,72,77,80,84,88,91,98,101,104,109]
theorem wd_len : (sBy 0).length = 113 := by decide +kernel
theorem wd_t : ∀ w : Nat, w < 23 → (wls.getD w []).length + wst.getD w 0 ≤ 113 ∧ (w < 22 → wst.getD (w + 1) 0 = wst.getD w 0 + (wls.getD w []).length + 1 ∧ (sBy 0).getD (wst.getD w 0 + (wls.getD w []).length) 0 = 32) ∧ (w = 22 → wst.getD w 0 + (wls.getD w []).length = 113) ∧ 1 ≤ (wls.getD w []).length ∧ (wls.getD w []).length ≤ 6 ∧ ∀ j : Nat, j < (wls.getD w []).length → (sBy 0).getD (wst.getD w 0 + j) 0 = (wls.getD w []).getD j 0 ∧ (wls.getD w []).getD j 0 ≠ 32 ∧ (wls.getD w []).getD j 0 < 256 := by decide +kernel
theorem bys_len {b : Nat → Nat} {s e : Nat} : (bys b s e).length = e - s := by simp [bys]
theorem bys_get {b : Nat → Nat} {s e j : Nat} (h : j < e - s) : (bys b s e).getD j 0 = b (s + j) := by
  rw [List.getD_eq_getElem?_getD, bys, List.getElem?_map, List.getElem?_range h]
  rfl
theorem list_eq {l m : List Nat} (h1 : l.length = m.length) (h2 : ∀ j, j < l.length → l.getD j 0 = m.getD j 0) : l = m := by
  apply List.ext_getElem h1
  intro i a1 a2
  have := h2 i a1
  rw [List.getD_eq_getElem?_getD, List.getD_eq_getElem?_getD, List.getElem?_eq_getElem a1, List.getElem?_eq_getElem a2] at this
  exact this
/-- a word of the list is compared -/
theorem c33 {X : Cx} {d : Nat} {M : Mem} {b : Nat → Nat} {n s e w : Nat} (hX : StrOk X) (h : TpC M b n) (hse : s ≤ e) (he : e ≤ n) (hw : w < 23) (hl : (wls.getD w []).length = e - s) : CC X (d + 4) 33 [vR 3 0, vI (iN (wst.getD w 0)), vI (iN s), vI (iN e)] M (some (vI (bI (decide (wls.getD w [] = bys b s e))))) M := by
  obtain ⟨h1, h2, h3⟩ := h
  obtain ⟨t1, t2, t3, t4, t4b, t5⟩ := wd_t w hw
  refine e33 (w33_0 ?_)
  have run : ∀ (t j : Nat), j + t = e - s → (∀ i, i < j → (wls.getD w []).getD i 0 = b (s + i)) → V X (d + 4) 33 3 [some (vR 3 0), some (vI (iN (wst.getD w 0))), some (vI (iN s)), some (vI (iN e)), some (vI (iN (s + j))), none] [] M (fun r' M' => r' = some (vI (bI (decide (wls.getD w [] = bys b s e)))) ∧ M' = M) := by
    intro t
    induction t with
    | zero =>
      intro j hj hall
      have e1 : wls.getD w [] = bys b s e := list_eq (by rw [bys_len]; exact hl) (fun i hi => by rw [hall i (by omega), bys_get (by omega)])
      rw [decide_eq_true e1]
      exact w33_3 ⟨fun _ => ⟨isB1, rfl, rfl⟩, fun z => absurd ((iN_le (by omega) (by omega)).mpr (by omega)) z⟩
    | succ t ih =>
      intro j hj hall
      have ej : iN (wst.getD w 0) + iN (s + j) - iN s = iN (wst.getD w 0 + j) := by
        rw [iN_add, iN_sub (by omega)]
        congr 1
        omega
      refine w33_3 ⟨fun z => absurd ((iN_le (by omega) (by omega)).mp z) (by omega), fun _ => ⟨fun z => absurd ((iN_le (a := 400) (by decide) (by omega)).mp z) (by omega), fun _ => ⟨_, _, hX.1 d M 0 (by decide), ?_⟩⟩⟩
      rw [ej, wd_len]
      refine ⟨fun z => absurd ((iN_le (by decide) (by omega)).mp z) (by omega), fun _ => ⟨_, _, hX.2 d M 0 (wst.getD w 0 + j) (by decide) (by rw [wd_len]; omega), inb_of (by omega) (by decide), ?_⟩⟩
      obtain ⟨u1, u2, u3⟩ := t5 j (by omega)
      have hb := h3 (s + j) (by omega)
      rw [u1, ix_of (by omega), hb.1, iN_step]
      refine ⟨fun z => ih (j + 1) (by omega) (fun i hi => ?_), fun z => ⟨isB0, ?_, rfl⟩⟩
      · by_cases hij : i = j
        · rw [hij]
          exact (iN_inj (by omega) (by omega)).mp z
        · exact hall i (by omega)
      · have : ¬ wls.getD w [] = bys b s e := fun y => z (by
          have := congrArg (fun l => List.getD l j 0) y
          rw [bys_get (by omega)] at this
          rw [this])
        rw [decide_eq_false this]
        rfl
  exact run (e - s) 0 (by omega) (fun i hi => absurd hi (by omega))
theorem c32 {X : Cx} {d : Nat} {M : Mem} {b : Nat → Nat} {n s e : Nat} (hX : StrOk X) (h : TpC M b n) (hse : s ≤ e) (he : e ≤ n) : CC X (d + 5) 32 [vR 3 0, vI (iN s), vI (iN e)] M (some (vI (iN (wvF (bys b s e) 23)))) M := by
  have hn := h.1
  refine e32 (w32_0 ?_)
  have esub : iN e - iN s = iN (e - s) := iN_sub hse
  have run : ∀ (t w : Nat), w + t = 23 → V X (d + 5) 32 8 [some (vR 3 0), some (vI (iN s)), some (vI (iN e)), some (vI (iN w)), some (vI (iN (if w < 23 then wst.getD w 0 else 114))), some (vI (iN (if w < 23 then wst.getD w 0 else 114)))] [] M (fun r' M' => r' = some (vI (iN (wvF (bys b s e) t))) ∧ M' = M) := by
    intro t
    induction t with
    | zero =>
      intro w hw
      rw [if_neg (by omega)]
      refine w32_8 ⟨_, _, hX.1 (d + 1) M 0 (by decide), ?_⟩
      rw [wd_len]
      exact ⟨fun _ => ⟨rfl, rfl⟩, fun z => absurd ((iN_lt (by decide) (by decide)).mpr (by decide)) z⟩
    | succ t ih =>
      intro w hw
      obtain ⟨t1, t2, t3, t4, t4b, t5⟩ := wd_t w (by omega)
      have ww : 22 - t = w := by omega
      rw [if_pos (by omega)]
      have hnext := ih (w + 1) (by omega)
      -- at the word's end
      have atEnd : V X (d + 5) 32 8 [some (vR 3 0), some (vI (iN s)), some (vI (iN e)), some (vI (iN w)), some (vI (iN (wst.getD w 0))), some (vI (iN (wst.getD w 0 + (wls.getD w []).length)))] [] M (fun r' M' => r' = some (vI (iN (wvF (bys b s e) (t + 1)))) ∧ M' = M) := by
        have enext : (if w + 1 < 23 then wst.getD (w + 1) 0 else 114) = wst.getD w 0 + (wls.getD w []).length + 1 := by
          by_cases h22 : w < 22
          · rw [if_pos (by omega), (t2 h22).1]
          · rw [if_neg (by omega), t3 (by omega)]
        rw [enext] at hnext
        have elen : iN (wst.getD w 0 + (wls.getD w []).length) - iN (wst.getD w 0) = iN (wls.getD w []).length := by
          rw [iN_sub (by omega)]
          congr 1
          omega
        -- the comparison
        have cmp : ∀ {Q : Option Vl → Mem → Prop}, Q = (fun r' M' => r' = some (vI (iN (wvF (bys b s e) (t + 1)))) ∧ M' = M) → (¬ iN (wls.getD w []).length = iN (e - s) → V X (d + 5) 32 8 [some (vR 3 0), some (vI (iN s)), some (vI (iN e)), some (vI (iN w + 1)), some (vI (iN (wst.getD w 0 + (wls.getD w []).length) + 1)), some (vI (iN (wst.getD w 0 + (wls.getD w []).length) + 1))] [] M Q) ∧ (iN (wls.getD w []).length = iN (e - s) → ∃ (r3 : Int32) (M3 : Mem), CC X (d + 4) 33 [vR 3 0, vI (iN (wst.getD w 0)), vI (iN s), vI (iN e)] M (some (vI r3)) M3 ∧ (r3 = 0 → V X (d + 5) 32 8 [some (vR 3 0), some (vI (iN s)), some (vI (iN e)), some (vI (iN w + 1)), some (vI (iN (wst.getD w 0 + (wls.getD w []).length) + 1)), some (vI (iN (wst.getD w 0 + (wls.getD w []).length) + 1))] [] M3 Q) ∧ (¬ r3 = 0 → Q (some (vI (10000 + iN w))) M3)) := by
          rintro Q rfl
          rw [iN_step, iN_step]
          have no : ¬ wls.getD w [] = bys b s e → V X (d + 5) 32 8 [some (vR 3 0), some (vI (iN s)), some (vI (iN e)), some (vI (iN (w + 1))), some (vI (iN (wst.getD w 0 + (wls.getD w []).length + 1))), some (vI (iN (wst.getD w 0 + (wls.getD w []).length + 1)))] [] M (fun r' M' => r' = some (vI (iN (wvF (bys b s e) (t + 1)))) ∧ M' = M) := by
            intro hne
            have ev : wvF (bys b s e) (t + 1) = wvF (bys b s e) t := by
              show (if wls.getD (22 - t) [] = bys b s e then 10000 + (22 - t) else wvF (bys b s e) t) = _
              rw [ww, if_neg hne]
            rw [ev]
            exact hnext
          refine ⟨fun z => no (fun y => z (by rw [y, bys_len])), fun z => ?_⟩
          have hl : (wls.getD w []).length = e - s := (iN_inj (by omega) (by omega)).mp z
          refine ⟨_, _, c33 hX h hse he (by omega) hl, fun z2 => no (fun y => ?_), fun z2 => ?_⟩
          · rw [decide_eq_true y] at z2
            exact absurd z2 (by decide)
          · by_cases y : wls.getD w [] = bys b s e
            · have ev : wvF (bys b s e) (t + 1) = 10000 + w := by
                show (if wls.getD (22 - t) [] = bys b s e then 10000 + (22 - t) else wvF (bys b s e) t) = _
                rw [ww, if_pos y]
              rw [ev]
              exact ⟨by rw [iN_lit 10000, iN_add], rfl⟩
            · rw [decide_eq_false y] at z2
              exact absurd rfl z2
        refine w32_8 ⟨_, _, hX.1 (d + 1) M 0 (by decide), ?_⟩
        rw [wd_len]
        refine ⟨fun z => absurd ((iN_lt (by decide) (by omega)).mp z) (by omega), fun _ => ⟨_, _, hX.1 (d + 1) M 0 (by decide), ?_⟩⟩
        rw [wd_len, elen, esub]
        refine ⟨fun _ => cmp rfl, fun z => ?_⟩
        have h22 : w < 22 := by
          by_cases h22 : w < 22
          · exact h22
          · exact absurd (by rw [t3 (by omega)]) z
        refine ⟨_, _, hX.2 (d + 1) M 0 (wst.getD w 0 + (wls.getD w []).length) (by decide) (by rw [wd_len]; have := (t2 h22).1; have := (wd_t (w + 1) (by omega)).1; omega), ?_⟩
        rw [(t2 h22).2]
        exact ⟨fun z => absurd rfl z, fun _ => cmp rfl⟩
      -- within the word
      have within : ∀ (u j : Nat), j + u = (wls.getD w []).length → V X (d + 5) 32 8 [some (vR 3 0), some (vI (iN s)), some (vI (iN e)), some (vI (iN w)), some (vI (iN (wst.getD w 0))), some (vI (iN (wst.getD w 0 + j)))] [] M (fun r' M' => r' = some (vI (iN (wvF (bys b s e) (t + 1)))) ∧ M' = M) := by
        intro u
        induction u with
        | zero =>
          intro j hj
          rw [show j = (wls.getD w []).length by omega]
          exact atEnd
        | succ u ihu =>
          intro j hj
          obtain ⟨u1, u2, u3⟩ := t5 j (by omega)
          refine w32_8 ⟨_, _, hX.1 (d + 1) M 0 (by decide), ?_⟩
          rw [wd_len]
          refine ⟨fun z => absurd ((iN_lt (by decide) (by omega)).mp z) (by omega), fun _ => ⟨_, _, hX.1 (d + 1) M 0 (by decide), ?_⟩⟩
          rw [wd_len]
          refine ⟨fun z => absurd ((iN_inj (by omega) (by decide)).mp z) (by omega), fun _ => ⟨_, _, hX.2 (d + 1) M 0 (wst.getD w 0 + j) (by decide) (by rw [wd_len]; omega), ?_⟩⟩
          rw [u1, iN_step]
          exact ⟨fun _ => ihu (j + 1) (by omega), fun z => absurd ((iN_inj (b := 32) (by omega) (by decide)).mp z) u2⟩
      exact within (wls.getD w []).length 0 (by omega)
  exact run 23 0 (by omega)
/-- the list of tokens, c of them so far -/
def TkC (M : Mem) (b : Nat → Nat) (n c : Nat) : Prop := M.1 3 0 8 = iN c ∧ ∀ k, k < c → M.1 5 0 k = iN (tk b n k) ∧ M.1 6 0 k = iN (ps b n k)
abbrev FtP : Nat → Nat → Nat → Prop := fun c a j => a = 0 ∧ ((c = 3 ∧ (j = 8 ∨ j = 9 ∨ j = 10)) ∨ c = 5 ∨ c = 6)
theorem TpC.k {M M2 : Mem} {b : Nat → Nat} {n : Nat} {P : Nat → Nat → Nat → Prop} (h : TpC M b n) (k : K3 P M M2) (h1 : ¬ P 3 0 7) (h2 : ∀ j, ¬ P 4 0 j) : TpC M2 b n := ⟨h.1, by rw [k 3 0 7 h1]; exact h.2.1, fun j hj => by rw [k 4 0 j (h2 j)]; exact h.2.2 j hj⟩
theorem c26 {X : Cx} {d : Nat} {M : Mem} {b : Nat → Nat} {n c : Nat} {x y : Int32} (hc : c ≤ 400) (h : TkC M b n c) (hx : x = iN (tk b n c)) (hy : y = iN (ps b n c)) : ∃ M', CC X (d + 1) 26 [vR 3 0, vI x, vI y] M none M' ∧ TkC M' b n (c + 1) ∧ K3 FtP M M' := by
  refine ⟨st (st (st M 5 0 c x) 6 0 c y) 3 0 8 (iN (c + 1)), e26 (w26_0 ?_), ⟨st_at, fun k hk => ?_⟩, k3_trans (k3_trans (k3_st (by simp [FtP])) (k3_st (by simp [FtP]))) (k3_st (by simp [FtP]))⟩
  · have g1 : ∀ v, (st M 5 0 c v).1 3 0 8 = iN c := fun v => by rw [st_ne3 (fun z => absurd z.1 (by decide))]; exact h.1
    have g2 : ∀ v u, (st (st M 5 0 c v) 6 0 c u).1 3 0 8 = iN c := fun v u => by rw [st_ne3 (fun z => absurd z.1 (by decide))]; exact g1 v
    simp only [forall_eq, true_implies, false_implies, not_true_eq_false, not_false_eq_true, and_true, true_and, and_self, isB0, isB1, bI_t0, bI_f0, i10_, i20_, i01_, i02_, i12_, i21_, h.1, show (400 < iN c) = False from nlt_ (a := 400) (by decide) (by omega) hc, show inb (iN c) 401 from inb_of (by omega) (by decide), ix_of (show c < 2147483648 by omega), g1, g2, iN_step]
  · by_cases hkc : k = c
    · subst hkc
      exact ⟨by rw [st_ne3 (fun z => absurd z.1 (by decide)), st_ne3 (fun z => absurd z.1 (by decide)), st_at, hx], by rw [st_ne3 (fun z => absurd z.1 (by decide)), st_at, hy]⟩
    · rw [st_ne3 (fun z => absurd z.1 (by decide)), st_ne3 (fun z => absurd z.1 (by decide)), st_ne3 (fun z => hkc z.2.2), st_ne3 (fun z => absurd z.1 (by decide)), st_ne3 (fun z => hkc z.2.2), st_ne3 (fun z => absurd z.1 (by decide))]
      exact h.2 k (by omega)
theorem c25_run {X : Cx} {d : Nat} {b : Nat → Nat} {n m : Nat} (hX : StrOk X) (hm : ∀ k, m ≤ k → ps b n k = n) (hm2 : ∀ k, k < m → ps b n k < n) (hmn : m ≤ n) : ∀ (t i E c : Nat) (M : Mem), i + t = n → TpC M b n → TkC M b n c → (i ≤ E → E ≤ n) → skW b n (max i E) = ps b n c → (∀ k, k < c → ps b n k < n) → ∃ M', TpC M' b n ∧ TkC M' b n (m + 1) ∧ M'.1 3 0 9 = 0 ∧ M'.1 3 0 10 = iN (tk b n 0) ∧ K3 FtP M M' ∧ ∀ Q : Option Vl → Mem → Prop, Q none M' → V X (d + 6) 25 9 [some (vR 3 0), some (vI (iN E)), some (vI (iN i))] [] M Q
  | 0, i, E, c, M, hi, hT, hK, hE, hp, hc => by
    have : i = n := hi
    subst this
    have hn := hT.1
    have hmax : max i E = i := by
      by_cases h : i ≤ E
      · have := hE h; omega
      · omega
    have hpc : ps b i c = i := by
      rw [← hp, hmax]
      exact enP_st (fun z => absurd z.1 (by omega))
    have hcm : c = m := by
      rcases Nat.lt_trichotomy c m with h | h | h
      · have := hm2 c h; omega
      · exact h
      · have := hc m h; have := hm m (Nat.le_refl _); omega
    subst hcm
    obtain ⟨M1, p1, p2, p3⟩ := c26 (X := X) (d := d + 4) (M := M) (x := 30001) (y := iN i) (c := c) (by omega) hK (by rw [tk_end hpc]; rfl) (by rw [hpc])
    have hT1 : TpC M1 b i := hT.k p3 (by simp [FtP]) (fun _ => by simp [FtP])
    refine ⟨st (st M1 3 0 9 0) 3 0 10 (iN (tk b i 0)), hT1.k (k3_trans (k3_st (P := FtP) (by simp [FtP])) (k3_st (by simp [FtP]))) (by simp [FtP]) (fun _ => by simp [FtP]), ⟨by rw [st_ne3 (by omega), st_ne3 (by omega)]; exact p2.1, fun k hk => by rw [st_ne3 (fun z => absurd z.1 (by decide)), st_ne3 (fun z => absurd z.1 (by decide)), st_ne3 (fun z => absurd z.1 (by decide)), st_ne3 (fun z => absurd z.1 (by decide))]; exact p2.2 k hk⟩, by rw [st_ne3 (by omega), st_at], st_at, k3_trans p3 (k3_trans (k3_st (by simp [FtP])) (k3_st (by simp [FtP]))), fun Q hQ => w25_9 ⟨fun _ => ?_, fun z => absurd ?_ z⟩⟩
    · rw [hT.2.1]
      refine ⟨_, p1, ?_⟩
      rintro M2 rfl
      refine ⟨inb_l (by decide) (by decide), ?_⟩
      rw [show ix 0 = 0 from ix_l (by decide), st_ne3 (fun z => absurd z.1 (by decide)), (p2.2 0 (by omega)).1]
      rintro M3 rfl
      exact hQ
    · rw [hT.2.1]
      exact (iN_le (by omega) (by omega)).mpr (Nat.le_refl _)
  | t + 1, i, E, c, M, hi, hT, hK, hE, hp, hc => by
    have hn := hT.1
    have z1 : (M.1 3 0 7 ≤ iN i) = False := by rw [hT.2.1]; exact nle_ (by omega) (by omega) (by omega)
    have z2 : (400 ≤ iN i) = False := nle_ (a := 400) (by decide) (by omega) (by omega)
    have ib : inb (iN i) 400 := inb_of (by omega) (by decide)
    have xi : ix (iN i) = i := ix_of (by omega)
    by_cases hiE : i < E
    · obtain ⟨M', q1, q2, q3, q4, q5, q6⟩ := c25_run (X := X) (d := d) hX hm hm2 hmn t (i + 1) E c M (by omega) hT hK (fun _ => hE (by omega)) (by rw [show max (i + 1) E = max i E by omega]; exact hp) hc
      have hEn := hE (by omega)
      refine ⟨M', q1, q2, q3, q4, q5, fun Q hQ => w25_9 ?_⟩
      simp only [forall_eq, true_implies, false_implies, not_true_eq_false, not_false_eq_true, and_true, true_and, and_self, isB0, isB1, bI_t0, bI_f0, i10_, i20_, i01_, i02_, i12_, i21_, z1, z2, ylt_ (a := i) (b := E) (by omega) (by omega) hiE, iN_step]
      exact q6 Q hQ
    · rw [show max i E = i by omega] at hp
      have z3 : (iN i < iN E) = False := nlt_ (by omega) (by omega) (by omega)
      have hb := hT.2.2 i (by omega)
      have cl := c27 (X := X) (d := d + 4) (M := M) (c := b i) hb.2
      have cd := c28 (X := X) (d := d + 4) (M := M) (c := b i) hb.2
      by_cases hw : isWc (b i) = true
      · have hlet : isLc (b i) = false := by
          simp only [isWc, Bool.or_eq_true, decide_eq_true_eq] at hw
          rcases hw with h | h <;> rw [h] <;> decide
        have hdig : isDc (b i) = false := by
          simp only [isWc, Bool.or_eq_true, decide_eq_true_eq] at hw
          rcases hw with h | h <;> rw [h] <;> decide
        rw [hlet] at cl
        rw [hdig] at cd
        have hgo : skW b n i = skW b n (i + 1) := enP_go (by omega) hw
        obtain ⟨M', q1, q2, q3, q4, q5, q6⟩ := c25_run (X := X) (d := d) hX hm hm2 hmn t (i + 1) (i + 1) c M (by omega) hT hK (fun _ => by omega) (by rw [Nat.max_self, ← hgo]; exact hp) hc
        refine ⟨M', q1, q2, q3, q4, q5, fun Q hQ => w25_9 ?_⟩
        simp only [forall_eq, true_implies, false_implies, not_true_eq_false, not_false_eq_true, and_true, true_and, and_self, isB0, isB1, bI_t0, bI_f0, i10_, i20_, i01_, i02_, i12_, i21_, z1, z2, z3, ib, xi, hb.1]
        refine ⟨_, _, cl, ?_⟩
        simp only [forall_eq, true_implies, false_implies, not_true_eq_false, not_false_eq_true, and_true, true_and, and_self, isB0, isB1, bI_t0, bI_f0, i10_, i20_, i01_, i02_, i12_, i21_, hb.1]
        refine ⟨_, _, cd, ?_⟩
        simp only [isWc, Bool.or_eq_true, decide_eq_true_eq] at hw
        rcases hw with h | h
        · simp only [forall_eq, true_implies, false_implies, not_true_eq_false, not_false_eq_true, and_true, true_and, and_self, isB0, isB1, bI_t0, bI_f0, i10_, i20_, i01_, i02_, i12_, i21_, hb.1, h, show (iN 32 = 32) = True from eq_true rfl, iN_step]
          exact q6 Q hQ
        · simp only [forall_eq, true_implies, false_implies, not_true_eq_false, not_false_eq_true, and_true, true_and, and_self, isB0, isB1, bI_t0, bI_f0, i10_, i20_, i01_, i02_, i12_, i21_, hb.1, h, show (iN 10 = 32) = False from by decide, show (iN 10 = 10) = True from eq_true rfl, iN_step]
          exact q6 Q hQ
      · have hw0 : isWc (b i) = false := by simpa using hw
        have hpi : ps b n c = i := by
          rw [← hp]
          exact enP_st (fun z => hw z.2)
        have hcl : c ≤ n := by
          rcases ps_ge (b := b) (n := n) c with h | h
          · omega
          · omega
        have htk : tk b n c = tkV b n i := by
          unfold tk
          rw [hpi, if_pos (by omega)]
        have hnx : ps b n (c + 1) = skW b n (tkE b n i) := by rw [ps_go (by omega), hpi]
        have hte := tkE_b (b := b) (n := n) (s := i) (by omega)
        have hcc : ∀ k, k < c + 1 → ps b n k < n := fun k hk => by
          by_cases hkc : k = c
          · rw [hkc, hpi]; omega
          · exact hc k (by omega)
        -- the token is put down, and on it goes
        have go : ∀ (x : Int32), x = iN (tkV b n i) → ∃ M', TpC M' b n ∧ TkC M' b n (m + 1) ∧ M'.1 3 0 9 = 0 ∧ M'.1 3 0 10 = iN (tk b n 0) ∧ K3 FtP M M' ∧ ∃ M1, CC X (d + 5) 26 [vR 3 0, vI x, vI (iN i)] M none M1 ∧ ∀ Q : Option Vl → Mem → Prop, Q none M' → V X (d + 6) 25 9 [some (vR 3 0), some (vI (iN (tkE b n i))), some (vI (iN (i + 1)))] [] M1 Q := by
          intro x hx
          obtain ⟨M1, p1, p2, p3⟩ := c26 (X := X) (d := d + 4) (M := M) (x := x) (y := iN i) (c := c) (by omega) hK (by rw [htk]; exact hx) (by rw [hpi])
          obtain ⟨M', q1, q2, q3, q4, q5, q6⟩ := c25_run (X := X) (d := d) hX hm hm2 hmn t (i + 1) (tkE b n i) (c + 1) M1 (by omega) (hT.k p3 (by simp [FtP]) (fun _ => by simp [FtP])) p2 (fun _ => hte.2) (by rw [show max (i + 1) (tkE b n i) = tkE b n i by omega]; exact hnx.symm) hcc
          exact ⟨M', q1, q2, q3, q4, k3_trans p3 q5, M1, p1, q6⟩
        by_cases hlet : isLc (b i) = true
        · rw [hlet] at cl
          have ev : tkV b n i = wvF (bys b i (enP isLc b n i)) 23 := if_pos hlet
          have ee : tkE b n i = enP isLc b n i := if_pos hlet
          obtain ⟨M', q1, q2, q3, q4, q5, M1, p1, q6⟩ := go _ rfl
          rw [ev] at p1
          rw [ee] at q6 hte
          refine ⟨M', q1, q2, q3, q4, q5, fun Q hQ => w25_9 ?_⟩
          simp only [forall_eq, true_implies, false_implies, not_true_eq_false, not_false_eq_true, and_true, true_and, and_self, isB0, isB1, bI_t0, bI_f0, i10_, i20_, i01_, i02_, i12_, i21_, z1, z2, z3, ib, xi, hb.1]
          refine ⟨_, _, cl, ?_⟩
          simp only [forall_eq, true_implies, false_implies, not_true_eq_false, not_false_eq_true, and_true, true_and, and_self, isB0, isB1, bI_t0, bI_f0, i10_, i20_, i01_, i02_, i12_, i21_, iN_step]
          exact ⟨_, _, c29 hT (by omega), _, _, c32 hX hT (by omega) hte.2, _, p1, q6 Q hQ⟩
        · have hlet0 : isLc (b i) = false := by simpa using hlet
          rw [hlet0] at cl
          by_cases hdig : isDc (b i) = true
          · rw [hdig] at cd
            have ev : tkV b n i = (if enP isDc b n i - i ≤ 4 then nmV b i (enP isDc b n i - i) else 30000) := (if_neg hlet).trans (if_pos hdig)
            have ee : tkE b n i = enP isDc b n i := (if_neg hlet).trans (if_pos hdig)
            obtain ⟨M', q1, q2, q3, q4, q5, M1, p1, q6⟩ := go _ rfl
            rw [ee] at q6 hte
            refine ⟨M', q1, q2, q3, q4, q5, fun Q hQ => w25_9 ?_⟩
            simp only [forall_eq, true_implies, false_implies, not_true_eq_false, not_false_eq_true, and_true, true_and, and_self, isB0, isB1, bI_t0, bI_f0, i10_, i20_, i01_, i02_, i12_, i21_, z1, z2, z3, ib, xi, hb.1]
            refine ⟨_, _, cl, ?_⟩
            simp only [forall_eq, true_implies, false_implies, not_true_eq_false, not_false_eq_true, and_true, true_and, and_self, isB0, isB1, bI_t0, bI_f0, i10_, i20_, i01_, i02_, i12_, i21_, hb.1]
            refine ⟨_, _, cd, ?_⟩
            simp only [forall_eq, true_implies, false_implies, not_true_eq_false, not_false_eq_true, and_true, true_and, and_self, isB0, isB1, bI_t0, bI_f0, i10_, i20_, i01_, i02_, i12_, i21_, iN_step]
            refine ⟨_, _, c30 hT (by omega), ?_⟩
            rw [show iN (enP isDc b n i) - iN i = iN (enP isDc b n i - i) from iN_sub (by omega)]
            by_cases h4 : enP isDc b n i - i ≤ 4
            · rw [if_pos h4] at ev
              rw [ev] at p1
              simp only [forall_eq, true_implies, false_implies, not_true_eq_false, not_false_eq_true, and_true, true_and, and_self, isB0, isB1, bI_t0, bI_f0, i10_, i20_, i01_, i02_, i12_, i21_, show (4 < iN (enP isDc b n i - i)) = False from nlt_ (a := 4) (by decide) (by omega) h4]
              exact ⟨_, _, c31 hT (by omega) hte.2 h4 (fun j h1 h2 => enP_all (P := isDc) (b := b) (n := n) i j h1 h2), _, p1, q6 Q hQ⟩
            · rw [if_neg h4] at ev
              rw [ev] at p1
              simp only [forall_eq, true_implies, false_implies, not_true_eq_false, not_false_eq_true, and_true, true_and, and_self, isB0, isB1, bI_t0, bI_f0, i10_, i20_, i01_, i02_, i12_, i21_, show (4 < iN (enP isDc b n i - i)) = True from ylt_ (a := 4) (by decide) (by omega) (by omega)]
              exact ⟨_, p1, q6 Q hQ⟩
          · have hdig0 : isDc (b i) = false := by simpa using hdig
            rw [hdig0] at cd
            have ev : tkV b n i = 20000 + b i := (if_neg hlet).trans (if_neg hdig)
            have ee : tkE b n i = i + 1 := (if_neg hlet).trans (if_neg hdig)
            obtain ⟨M', q1, q2, q3, q4, q5, M1, p1, q6⟩ := go _ rfl
            rw [ev] at p1
            rw [ee] at q6
            simp only [isWc, Bool.or_eq_false_iff, decide_eq_false_iff_not] at hw0
            refine ⟨M', q1, q2, q3, q4, q5, fun Q hQ => w25_9 ?_⟩
            simp only [forall_eq, true_implies, false_implies, not_true_eq_false, not_false_eq_true, and_true, true_and, and_self, isB0, isB1, bI_t0, bI_f0, i10_, i20_, i01_, i02_, i12_, i21_, z1, z2, z3, ib, xi, hb.1]
            refine ⟨_, _, cl, ?_⟩
            simp only [forall_eq, true_implies, false_implies, not_true_eq_false, not_false_eq_true, and_true, true_and, and_self, isB0, isB1, bI_t0, bI_f0, i10_, i20_, i01_, i02_, i12_, i21_, hb.1]
            refine ⟨_, _, cd, ?_⟩
            simp only [forall_eq, true_implies, false_implies, not_true_eq_false, not_false_eq_true, and_true, true_and, and_self, isB0, isB1, bI_t0, bI_f0, i10_, i20_, i01_, i02_, i12_, i21_, hb.1, show (iN (b i) = 32) = False from neq_ (b := 32) (by omega) (by decide) hw0.1, show (iN (b i) = 10) = False from neq_ (b := 10) (by omega) (by decide) hw0.2, show 20000 + iN (b i) = iN (20000 + b i) from by rw [iN_lit 20000, iN_add], iN_step]
            exact ⟨_, p1, q6 Q hQ⟩
theorem c25 {X : Cx} {d : Nat} {M : Mem} {b : Nat → Nat} {n m : Nat} (hX : StrOk X) (hT : TpC M b n) (hm : ∀ k, m ≤ k → ps b n k = n) (hm2 : ∀ k, k < m → ps b n k < n) (hmn : m ≤ n) : ∃ M', CC X (d + 6) 25 [vR 3 0] M none M' ∧ TpC M' b n ∧ TkC M' b n (m + 1) ∧ M'.1 3 0 9 = 0 ∧ M'.1 3 0 10 = iN (tk b n 0) ∧ K3 FtP M M' := by
  obtain ⟨M', q1, q2, q3, q4, q5, q6⟩ := c25_run (X := X) (d := d) hX hm hm2 hmn n 0 0 0 (st M 3 0 8 0) (by omega) (hT.k (k3_st (P := FtP) (by simp [FtP])) (by simp [FtP]) (fun _ => by simp [FtP])) ⟨st_at, fun k hk => absurd hk (by omega)⟩ (fun _ => by omega) rfl (fun k hk => absurd hk (by omega))
  refine ⟨M', e25 (w25_0 ?_), q1, q2, q3, q4, k3_trans (k3_st (by simp [FtP])) q5⟩
  rintro M1 rfl
  exact q6 _ ⟨rfl, rfl⟩
