/-! on which days to call -/
def fFd (n g : Nat) (u : Nat → Nat) : Nat → Nat → Nat
  | 0, _ => 0
  | t + 1, k => if k < n then max (fFd n g u t (k + 1)) (u k + fFd n g u t (k + g + 1)) else 0
def fF (n g : Nat) (u : Nat → Nat) (k : Nat) : Nat := fFd n g u (n - k) k
def fB (n g : Nat) (u : Nat → Nat) (k : Nat) : Nat := u k + fF n g u (k + g + 1)
theorem fFd_st {n g : Nat} {u : Nat → Nat} : ∀ (t k : Nat), n - k ≤ t → fFd n g u t k = fF n g u k := by
  intro t
  induction t using Nat.strongRecOn with
  | ind t ih =>
    intro k h
    rcases t with _ | t
    · unfold fF
      rw [show n - k = 0 by omega]
    · by_cases hk : k < n
      · have e : fF n g u k = max (fFd n g u (n - (k + 1)) (k + 1)) (u k + fFd n g u (n - (k + 1)) (k + g + 1)) := by
          show fFd n g u (n - k) k = _
          rw [show n - k = (n - (k + 1)) + 1 by omega]
          exact if_pos hk
        have e2 : fFd n g u (t + 1) k = max (fFd n g u t (k + 1)) (u k + fFd n g u t (k + g + 1)) := if_pos hk
        rw [e, e2, ih t (by omega) (k + 1) (by omega), ih t (by omega) (k + g + 1) (by omega), ih (n - (k + 1)) (by omega) (k + g + 1) (by omega)]
        rfl
      · have e2 : fFd n g u (t + 1) k = 0 := if_neg hk
        rw [e2]
        unfold fF
        rw [show n - k = 0 by omega]
        rfl
theorem fF_eq {n g : Nat} {u : Nat → Nat} {k : Nat} (hk : k < n) : fF n g u k = max (fF n g u (k + 1)) (fB n g u k) := by
  have e : fFd n g u (n - k) k = max (fFd n g u (n - (k + 1)) (k + 1)) (u k + fFd n g u (n - (k + 1)) (k + g + 1)) := by
    rw [show n - k = (n - (k + 1)) + 1 by omega]
    exact if_pos hk
  show fFd n g u (n - k) k = _
  rw [e, fFd_st (n - (k + 1)) (k + g + 1) (by omega)]
  rfl
theorem fF_end {n g : Nat} {u : Nat → Nat} {k : Nat} (hk : n ≤ k) : fF n g u k = 0 := by
  unfold fF
  rw [show n - k = 0 by omega]
  rfl
theorem fF_le {n g : Nat} {u : Nat → Nat} (hu : ∀ j, j < n → u j ≤ 99) : ∀ (t k : Nat), n - k ≤ t → fF n g u k ≤ 99 * (n - k)
  | 0, k, h => by rw [fF_end (by omega)]; omega
  | t + 1, k, h => by
    by_cases hk : k < n
    · have h1 := fF_le (g := g) hu t (k + 1) (by omega)
      have h2 := fF_le (g := g) hu t (k + g + 1) (by omega)
      have h3 := hu k hk
      rw [fF_eq hk]
      unfold fB
      omega
    · rw [fF_end (by omega)]; omega
def fD (n g : Nat) (u : Nat → Nat) : Nat → Nat → Int32
  | 0, _ => -1
  | t + 1, k => if fF n g u (k + 1) ≤ fB n g u k then iN k else fD n g u t (k + 1)
theorem gtr_iN {a b : Nat} (ha : a < 2147483648) (hb : b < 2147483648) : gtr (iN a) (iN b) = iN (max a b) := by
  unfold gtr
  by_cases h : a ≤ b
  · rw [if_pos ((iN_le ha hb).mpr h), Nat.max_eq_right h]
  · rw [if_neg (fun z => h ((iN_le ha hb).mp z)), Nat.max_eq_left (by omega)]
theorem iN_pred (s : Nat) : iN (s + 1) - 1 = iN s := nI_pred s
theorem iN_m1 (s : Nat) : iN s + (-1) = iN s - 1 := by grind
theorem max_iN {a b : Nat} (ha : a < 2147483648) (hb : b < 2147483648) : (if iN a < iN b then iN b else iN a) = iN (max a b) := by rw [gtr_max, gtr_iN ha hb]
/-- the class's inner loop: the best of the days from j on -/
theorem c81_in {X : Cx} {d : Nat} {M : Mem} {a n g i : Nat} {u : Nat → Nat} {x1 x2 x3 x4 : Int32} {Q : Option Vl → Mem → Prop} (hn : n ≤ 20) (hi : i < n) (h : M.1 86 a 0 = iN n) (hu : ∀ j, j < n → u j ≤ 99) (hb : ∀ j, i < j → j < n → M.1 75 a j = iN (fB n g u j)) :
    ∀ (t j acc : Nat), n - j ≤ t → i < j → j ≤ 40 → acc ≤ 5000 → (∀ M1, M1 = st M 75 a i ((M.1 87 a i) + iN (max acc (fF n g u j))) → inb (iN i) 20 ∧ ((M1.1 75 a i) < x3 → V X (d + 1) 81 21 [some (vR 70 a), some (vI x1), some (vI x2), some (vI x3), some (vI x4), some (vI (iN i + (-1))), none, none] [] M1 Q) ∧ (¬ (M1.1 75 a i) < x3 → inb (iN i) 20 ∧ V X (d + 1) 81 21 [some (vR 70 a), some (vI x1), some (vI x2), some (vI (M1.1 75 a i)), some (vI (iN i)), some (vI (iN i + (-1))), none, none] [] M1 Q)) →
      V X (d + 1) 81 41 [some (vR 70 a), some (vI x1), some (vI x2), some (vI x3), some (vI x4), some (vI (iN i)), some (vI (iN acc)), some (vI (iN j))] [] M Q := by
  intro t
  have hib : inb (iN i) 20 := inb_of (by omega) (by decide)
  induction t with
  | zero =>
    intro j acc hj hij hj4 hacc hc
    rw [fF_end (by omega), Nat.max_eq_left (Nat.zero_le _)] at hc
    refine w81_41 ⟨fun _ => ⟨hib, hib, ?_⟩, fun z => absurd ?_ z⟩
    · rw [ix_of (by omega)]
      exact hc
    · rw [h]
      exact (iN_le (by omega) (by omega)).mpr (by omega)
  | succ t ih =>
    intro j acc hj hij hj4 hacc hc
    by_cases hjn : j < n
    · have hl := fF_le (g := g) hu n (j + 1) (by omega)
      have hl2 := fF_le (g := g) hu n (j + g + 1) (by omega)
      have hl3 := hu j hjn
      have hbb : fB n g u j ≤ 2100 := by unfold fB; omega
      refine w81_41 ⟨fun z => absurd ((iN_le (by omega) (by omega)).mp (h ▸ z)) (by omega), fun _ => ⟨fun z => absurd ((iN_le (a := 20) (by decide) (by omega)).mp z) (by omega), fun _ => ⟨inb_of (by omega) (by decide), ?_⟩⟩⟩
      rw [ix_of (by omega), hb j hij hjn, max_iN (by omega) (by omega), iN_step]
      refine ih (j + 1) (max acc (fB n g u j)) (by omega) (by omega) (by omega) (by omega) ?_
      rw [fF_eq hjn] at hc
      rw [show max (max acc (fB n g u j)) (fF n g u (j + 1)) = max acc (max (fF n g u (j + 1)) (fB n g u j)) by omega]
      exact hc
    · rw [fF_end (by omega), Nat.max_eq_left (Nat.zero_le _)] at hc
      refine w81_41 ⟨fun _ => ⟨hib, hib, ?_⟩, fun z => absurd ?_ z⟩
      · rw [ix_of (by omega)]
        exact hc
      · rw [h]
        exact (iN_le (by omega) (by omega)).mpr (by omega)
def fM (n g : Nat) (u : Nat → Nat) (t : Nat) : Int32 := if t < n then iN (fF n g u t) else -1
theorem c81_out {X : Cx} {d : Nat} {M : Mem} {a n g : Nat} {u : Nat → Nat} {x2 : Int32} (hn : n ≤ 20) (hg : g ≤ 9) (h : M.1 86 a 0 = iN n) (hu : ∀ j, j < n → u j ≤ 99) (hv : ∀ j, j < n → M.1 87 a j = iN (u j)) :
    ∀ (t : Nat) (Mt : Mem), t ≤ n → ((∀ j, t ≤ j → j < n → Mt.1 75 a j = iN (fB n g u j)) ∧ Keep (only 75 75 a) noR M Mt) → ∃ Mn, Keep (only 75 75 a) noR M Mn ∧ ∀ Q, V X (d + 1) 81 21 [some (vR 70 a), some (vI (iN g)), some (vI x2), some (vI (fM n g u 0)), some (vI (fD n g u n 0)), some (vI (iN 0 - 1)), none, none] [] Mn Q → V X (d + 1) 81 21 [some (vR 70 a), some (vI (iN g)), some (vI x2), some (vI (fM n g u t)), some (vI (fD n g u (n - t) t)), some (vI (iN t - 1)), none, none] [] Mt Q := by
  intro t
  induction t with
  | zero => exact fun Mt _ hI => ⟨Mt, hI.2, fun Q hQ => hQ⟩
  | succ t ih =>
    intro Mt ht hI
    obtain ⟨g1, g2⟩ := hI
    have hl := fF_le (g := g) hu n (t + 1) (by omega)
    have hl2 := fF_le (g := g) hu n (t + g + 1) (by omega)
    have hl3 := hu t (by omega)
    have hbb : fB n g u t ≤ 2100 := by unfold fB; omega
    have hc : Mt.1 86 a 0 = iN n := by rw [g2.1 86 a (by simp) (by decide)]; exact h
    have hvt : Mt.1 87 a t = iN (u t) := by rw [g2.1 87 a (by simp) (by decide)]; exact hv t (by omega)
    have hib : inb (iN t) 20 := inb_of (by omega) (by decide)
    obtain ⟨Mn, k1, k2⟩ := ih (st Mt 75 a t (iN (fB n g u t))) (by omega) ⟨fun j hj hjn => by
      rw [st_eq]
      by_cases hjt : j = t
      · subst hjt
        exact upd_at
      · rw [upd_ne hjt]
        exact g1 j (by omega) hjn, kp_trans g2 (kp_st ⟨Or.inl rfl, rfl⟩ (by decide))⟩
    refine ⟨Mn, k1, fun Q hQ => ?_⟩
    have hgo := k2 Q hQ
    rw [iN_pred]
    refine w81_21 ⟨fun z => absurd (iN_nn (n := t) (by omega)) (Int32.not_le.mpr z), fun _ => ?_⟩
    have e1 : iN t + 1 + (if 0 < iN g then iN g else 0) = iN (t + 1 + g) := by
      have : (if 0 < iN g then iN g else 0) = iN g := by
        have := max_iN (a := 0) (b := g) (by decide) (by omega)
        rw [Nat.max_eq_right (Nat.zero_le _)] at this
        exact this
      rw [this, iN_step, iN_add]
    rw [e1]
    refine c81_in (u := u) (g := g) (x3 := fM n g u (t + 1)) hn (by omega) hc hu (fun j hj hjn => g1 j (by omega) hjn) n (t + 1 + g) 0 (by omega) (by omega) (by omega) (by omega) ?_
    rw [Nat.max_eq_right (Nat.zero_le _), hvt, iN_add, show u t + fF n g u (t + 1 + g) = fB n g u t by unfold fB; rw [show t + 1 + g = t + g + 1 by omega]]
    rintro M1 rfl
    rw [st_at, iN_m1]
    have hd : fD n g u (n - t) t = if fF n g u (t + 1) ≤ fB n g u t then iN t else fD n g u (n - (t + 1)) (t + 1) := by
      rw [show n - t = (n - (t + 1)) + 1 by omega]
      rfl
    have hm : fM n g u t = iN (max (fF n g u (t + 1)) (fB n g u t)) := by
      unfold fM
      rw [if_pos (by omega), fF_eq (by omega)]
    by_cases hle : fF n g u (t + 1) ≤ fB n g u t
    · have hnl : ¬ iN (fB n g u t) < fM n g u (t + 1) := by
        unfold fM
        by_cases h1 : t + 1 < n
        · rw [if_pos h1]
          exact fun z => absurd ((iN_lt (by omega) (by omega)).mp z) (by omega)
        · rw [if_neg h1]
          have := iN_nn (n := fB n g u t) (by omega)
          grind
      rw [hd, if_pos hle, hm, Nat.max_eq_right hle] at hgo
      exact ⟨hib, fun z => absurd z hnl, fun _ => ⟨hib, hgo⟩⟩
    · have h1 : t + 1 < n := by
        rcases Nat.lt_or_ge (t + 1) n with h1 | h1
        · exact h1
        · rw [fF_end h1] at hle
          omega
      have hnl : iN (fB n g u t) < fM n g u (t + 1) := by
        unfold fM
        rw [if_pos h1]
        exact (iN_lt (by omega) (by omega)).mpr (by omega)
      have hm2 : fM n g u (t + 1) = iN (fF n g u (t + 1)) := if_pos h1
      rw [hd, if_neg hle, hm, Nat.max_eq_left (by omega), ← hm2] at hgo
      exact ⟨hib, fun _ => hgo, fun z => absurd hnl z⟩
theorem c81 {X : Cx} {d : Nat} {M : Mem} {a n g : Nat} {u : Nat → Nat} {x2 : Int32} (hn : n ≤ 20) (hg : g ≤ 9) (h : M.1 86 a 0 = iN n) (hu : ∀ j, j < n → u j ≤ 99) (hv : ∀ j, j < n → M.1 87 a j = iN (u j)) :
    ∃ M2, CC X (d + 1) 81 [vR 70 a, vI (iN g), vI x2] M (some (vI (if x2 = 0 then fD n g u n 0 else iN (fF n g u 0)))) M2 ∧ Keep (only 75 75 a) noR M M2 := by
  obtain ⟨Mn, k1, k2⟩ := c81_out (X := X) (d := d) (x2 := x2) hn hg h hu hv n M (Nat.le_refl n) ⟨fun j h1 h2 => by omega, kp_refl⟩
  have hl := fF_le (g := g) hu n 0 (by omega)
  refine ⟨Mn, e81 (w81_0 ?_), k1⟩
  have e1 : (if 20 < M.1 86 a 0 then 20 else M.1 86 a 0) = iN n := by
    rw [h, if_neg]
    exact fun z => absurd ((iN_lt (a := 20) (by decide) (by omega)).mp z) (by omega)
  rw [e1]
  have e2 : fM n g u n = -1 := if_neg (by omega)
  have e3 : fD n g u (n - n) n = -1 := by rw [Nat.sub_self]; rfl
  rw [e2, e3] at k2
  refine k2 _ (w81_21 ⟨fun _ => ⟨fun z => ⟨by rw [if_pos z], rfl⟩, fun z => ⟨?_, rfl⟩⟩, fun z => absurd (by decide) z⟩)
  rw [if_neg z]
  unfold fM
  by_cases h0 : 0 < n
  · rw [if_pos h0]
    have := max_iN (a := 0) (b := fF n g u 0) (by decide) (by omega)
    rw [Nat.max_eq_right (Nat.zero_le _)] at this
    exact congrArg (fun x => some (vI x)) this
  · rw [if_neg h0, fF_end (by omega)]
    rfl
/-! the reference -/
theorem c257_a {X : Cx} {d : Nat} {M : Mem} {n g : Nat} (hn : n ≤ 20) (h : M.1 101 0 238 = iN n) : ∀ (t : Nat) (Mt : Mem), n ≤ t → t ≤ 31 → ((∀ j, t ≤ j → j ≤ 30 → Mt.1 116 0 j = 0) ∧ Keep (only 116 116 0) noR M Mt) → ∃ Mn, ((∀ j, n ≤ j → j ≤ 30 → Mn.1 116 0 j = 0) ∧ Keep (only 116 116 0) noR M Mn) ∧ ∀ Q, V X (d + 1) 257 39 [some (vR 100 0), some (vI (iN g)), some (vI (iN n - 1))] [] Mn Q → V X (d + 1) 257 3 [some (vR 100 0), some (vI (iN g)), some (vI (iN t - 1))] [] Mt Q := by
  have hi : inb 238 2129 := inb_l (by decide) (by decide)
  have hx : ix 238 = 238 := ix_l (by decide)
  intro t
  induction t with
  | zero =>
    intro Mt hnt _ hI
    have hn0 : n = 0 := by omega
    subst hn0
    have hc : Mt.1 101 0 (ix 238) = iN 0 := by rw [hx, hI.2.2 _ (fun z => z)]; exact h
    refine ⟨Mt, hI, fun Q hQ => w257_3 ⟨hi, fun _ => ⟨hi, ?_⟩, fun z => absurd ?_ z⟩⟩
    · rw [hc]
      exact hQ
    · rw [hc]
      decide
  | succ t ih =>
    intro Mt hnt ht hI
    have hc : Mt.1 101 0 (ix 238) = iN n := by rw [hx, hI.2.2 _ (fun z => z)]; exact h
    rw [iN_pred]
    by_cases hnt2 : n = t + 1
    · subst hnt2
      refine ⟨Mt, hI, fun Q hQ => w257_3 ⟨hi, fun _ => ⟨hi, ?_⟩, fun z => absurd ?_ z⟩⟩
      · rw [hc]
        exact hQ
      · rw [hc]
        exact (iN_lt (by omega) (by omega)).mpr (by omega)
    · obtain ⟨Mn, k1, k2⟩ := ih (st Mt 116 0 t 0) (by omega) (by omega) ⟨fun j hj hj2 => by
        rw [st_eq]
        by_cases hjt : j = t
        · subst hjt
          exact upd_at
        · rw [upd_ne hjt]
          exact hI.1 j (by omega) hj2, kp_trans hI.2 (kp_st ⟨Or.inl rfl, rfl⟩ (by decide))⟩
      refine ⟨Mn, k1, fun Q hQ => w257_3 ⟨hi, fun z => absurd ?_ (Int32.not_lt.mpr (Int32.le_of_lt z)), fun _ => ⟨inb_of (by omega) (by decide), ?_⟩⟩⟩
      · rw [hc] at z
        exact absurd ((iN_lt (by omega) (by omega)).mp z) (by omega)
      · rw [ix_of (by omega), iN_m1]
        rintro M1 rfl
        exact k2 Q hQ
theorem iN_597 (j : Nat) : 597 + iN j = iN (597 + j) := by simp only [iN_lit, iN_add]
theorem c257_b {X : Cx} {d : Nat} {M : Mem} {n g : Nat} {u : Nat → Nat} (hn : n ≤ 20) (hg : g ≤ 9) (hu : ∀ j, j < n → u j ≤ 99) (hv : ∀ j, j < n → M.1 101 0 (597 + j) = iN (u j)) : ∀ (t : Nat) (Mt : Mem), t ≤ n → ((∀ j, t ≤ j → j ≤ 30 → Mt.1 116 0 j = iN (fF n g u j)) ∧ Keep (only 116 116 0) noR M Mt) → ∃ Mn, ((∀ j, j ≤ 30 → Mn.1 116 0 j = iN (fF n g u j)) ∧ Keep (only 116 116 0) noR M Mn) ∧ ∀ Q, Q none Mn → V X (d + 2) 257 39 [some (vR 100 0), some (vI (iN g)), some (vI (iN t - 1))] [] Mt Q := by
  intro t
  induction t with
  | zero =>
    intro Mt _ hI
    exact ⟨Mt, ⟨fun j hj => hI.1 j (Nat.zero_le _) hj, hI.2⟩, fun Q hQ => w257_39 ⟨fun _ => hQ, fun z => absurd (by decide) z⟩⟩
  | succ t ih =>
    intro Mt ht hI
    obtain ⟨g1, g2⟩ := hI
    have hl := fF_le (g := g) hu n (t + 1) (by omega)
    have hl2 := fF_le (g := g) hu n (t + g + 1) (by omega)
    have hl3 := hu t (by omega)
    have hbb : fB n g u t ≤ 2100 := by unfold fB; omega
    have hvt : Mt.1 101 0 (597 + t) = iN (u t) := by rw [g2.2 _ (fun z => z)]; exact hv t (by omega)
    obtain ⟨Mn, k1, k2⟩ := ih (st Mt 116 0 t (iN (fF n g u t))) (by omega) ⟨fun j hj hj2 => by
      rw [st_eq]
      by_cases hjt : j = t
      · subst hjt
        exact upd_at
      · rw [upd_ne hjt]
        exact g1 j (by omega) hj2, kp_trans g2 (kp_st ⟨Or.inl rfl, rfl⟩ (by decide))⟩
    refine ⟨Mn, k1, fun Q hQ => ?_⟩
    rw [iN_pred]
    refine w257_39 ⟨fun z => absurd (iN_nn (n := t) (by omega)) (Int32.not_le.mpr z), fun _ => ?_⟩
    rw [iN_add, iN_step, iN_step, iN_597, ix_of (by omega), ix_of (by omega), ix_of (by omega), ix_of (by omega), hvt, g1 (t + 1) (by omega) (by omega), g1 (t + g + 1) (by omega) (by omega), iN_add]
    have c := c153 (X := X) (d := d) (M := Mt) (x := iN (fF n g u (t + 1))) (y := iN (fB n g u t))
    rw [gtr_iN (by omega) (by omega), ← fF_eq (by omega)] at c
    refine ⟨inb_of (by omega) (by decide), inb_of (by omega) (by decide), inb_of (by omega) (by decide), _, _, c, inb_of (by omega) (by decide), ?_⟩
    rw [iN_m1]
    rintro M1 rfl
    exact k2 Q hQ
theorem c257 {X : Cx} {d : Nat} {M : Mem} {n g : Nat} {u : Nat → Nat} (hn : n ≤ 20) (hg : g ≤ 9) (h : M.1 101 0 238 = iN n) (hu : ∀ j, j < n → u j ≤ 99) (hv : ∀ j, j < n → M.1 101 0 (597 + j) = iN (u j)) :
    ∃ M2, CC X (d + 2) 257 [vR 100 0, vI (iN g)] M none M2 ∧ (∀ j, j ≤ 30 → M2.1 116 0 j = iN (fF n g u j)) ∧ Keep (only 116 116 0) noR M M2 := by
  obtain ⟨M1, ⟨k1, k2⟩, k3⟩ := c257_a (X := X) (d := d + 1) (g := g) hn h 31 M (by omega) (Nat.le_refl _) ⟨fun j h1 h2 => by omega, kp_refl⟩
  obtain ⟨Mn, ⟨k4, k5⟩, k6⟩ := c257_b (X := X) (d := d) (M := M1) hn hg hu (fun j hj => by rw [k2.2 _ (fun z => z)]; exact hv j hj) n M1 (Nat.le_refl n) ⟨fun j h1 h2 => by rw [k1 j h1 h2, fF_end h1]; rfl, kp_refl⟩
  exact ⟨Mn, e257 (w257_0 (k3 _ (k6 _ ⟨rfl, rfl⟩))), k4, kp_trans k2 k5⟩
theorem c258_l {X : Cx} {d : Nat} {M : Mem} {n g : Nat} {u : Nat → Nat} {Q : Option Vl → Mem → Prop} (hn : n ≤ 20) (hg : g ≤ 9) (hu : ∀ j, j < n → u j ≤ 99) (hv : ∀ j, j < n → M.1 101 0 (597 + j) = iN (u j)) (hF : ∀ j, j ≤ 30 → M.1 116 0 j = iN (fF n g u j)) : ∀ (t k : Nat), n - k = t → k < n → fF n g u k = fF n g u 0 → Q (some (vI (fD n g u t k))) M → V X (d + 1) 258 55 [some (vR 100 0), some (vI (iN g)), none, some (vI (iN k))] [] M Q := by
  intro t
  induction t with
  | zero => intro k h1 h2; omega
  | succ t ih =>
    intro k hk hkn he hQ
    have hx0 : ix 0 = 0 := ix_l (by decide)
    have hl := fF_le (g := g) hu n (k + 1) (by omega)
    have hl2 := fF_le (g := g) hu n (k + g + 1) (by omega)
    have hl0 := fF_le (g := g) hu n 0 (by omega)
    have hl3 := hu k (by omega)
    have hbb : fB n g u k ≤ 2100 := by unfold fB; omega
    have e1 : iN (u k) + iN (fF n g u (k + g + 1)) = iN (fB n g u k) := by rw [iN_add]; rfl
    have heq : iN (fB n g u k) = iN (fF n g u 0) ↔ fB n g u k = fF n g u 0 := iN_inj (by omega) (by omega)
    refine w258_55 ?_
    rw [iN_add, iN_step, iN_step, iN_597, ix_of (by omega), ix_of (by omega), hx0, hv k hkn, hF (k + g + 1) (by omega), hF 0 (by omega), e1, heq]
    have hr := fF_eq (n := n) (g := g) (u := u) hkn
    refine ⟨inb_of (by omega) (by decide), inb_of (by omega) (by decide), inb_l (by decide) (by decide), fun z => ?_, fun z => ?_⟩
    · have hd : fD n g u (t + 1) k = iN k := if_pos (by omega)
      rw [hd] at hQ
      exact hQ
    · have hd : fD n g u (t + 1) k = fD n g u t (k + 1) := if_neg (by omega)
      rw [hd] at hQ
      have hk1 : k + 1 < n := by
        rcases Nat.lt_or_ge (k + 1) n with h1 | h1
        · exact h1
        · have := fF_end (n := n) (g := g) (u := u) h1
          omega
      exact ih (k + 1) (by omega) hk1 (by omega) hQ
/-- fair, both -/
theorem op134 {X : Cx} {d : Nat} {M : Mem} {n : Nat} {v q : Int32} (h : ToldR M 86 0 (M.1 101 0) 238 597 1 20 GV n) : ∃ (x : Int32) (M1 M2 : Mem), CC X (d + 3) 134 [vR 2 0, vI v, vI q] M (some (vI x)) M1 ∧ CC X (d + 3) 258 [vR 100 0, vI v, vI q] M1 (some (vI x)) M2 ∧ Keep (fun c a => (c = 75 ∨ c = 116) ∧ a = 0) noR M M2 := by
  obtain ⟨q1, q2, q3, q4, q5, q6⟩ := h
  have hi238 : inb 238 2129 := inb_l (by decide) (by decide)
  have hx238 : ix 238 = 238 := ix_l (by decide)
  by_cases h1 : inR v 0 9 = true
  · by_cases h2 : inR q 0 1 = true
    · obtain ⟨g, rfl, hg⟩ := inR_iN (hi := 9) (by decide) h1
      have hu : ∀ j, j < n → ix (M.1 87 0 j) ≤ 99 ∧ M.1 87 0 j = iN (ix (M.1 87 0 j)) := fun j hj => by
        obtain ⟨k, hk, hk2⟩ := inR_iN (hi := 99) (by decide) (q6 j hj)
        have hk : M.1 87 0 j = iN k := hk
        rw [hk, ix_of (by omega)]
        exact ⟨hk2, rfl⟩
      have hv : ∀ j, j < n → M.1 101 0 (597 + j) = iN (ix (M.1 87 0 j)) := fun j hj => by
        have := q4 j hj
        rw [Nat.one_mul] at this
        rw [← this]
        exact (hu j hj).2
      by_cases hz : q = 0
      · subst hz
        obtain ⟨M1, k1, k2⟩ := c81 (X := X) (d := d + 1) (M := M) (a := 0) (g := g) (u := fun j => ix (M.1 87 0 j)) (x2 := 1) q1 hg q2 (fun j hj => (hu j hj).1) (fun j hj => (hu j hj).2)
        obtain ⟨M2, k3, k4, k5⟩ := c257 (X := X) (d := d) (M := M1) (g := g) (u := fun j => ix (M.1 87 0 j)) q1 hg (by rw [k2.2 _ (fun z => z)]; exact q3) (fun j hj => (hu j hj).1) (fun j hj => by rw [k2.2 _ (fun z => z)]; exact hv j hj)
        rw [if_neg (by decide)] at k1
        refine ⟨_, M1, M2, e134 (w134_0 ⟨_, _, c146, bI_if (fun z => by rw [h1] at z; cases z) (fun _ => ⟨_, _, c146, bI_if (fun z => by rw [h2] at z; cases z) (fun _ => ⟨fun z => absurd rfl z, fun _ => ⟨_, _, k1, rfl, rfl⟩⟩)⟩)⟩), e258 (w258_0 ⟨_, _, c151, bI_if (fun z => by rw [h1] at z; cases z) (fun _ => ⟨_, _, c151, bI_if (fun z => by rw [h2] at z; cases z) (fun _ => ⟨fun _ => ⟨_, k3, fun z => absurd rfl z, fun _ => ⟨inb_l (by decide) (by decide), ?_, rfl⟩⟩, fun z => absurd z (by decide)⟩)⟩)⟩), kp_trans (kp_sub k2 (fun c a z => by omega) (fun _ z => z)) (kp_sub k5 (fun c a z => by omega) (fun _ z => z))⟩
        rw [show ix 0 = 0 from ix_l (by decide), k4 0 (by omega)]
      · have hq1 : q = 1 := by
          obtain ⟨k, rfl, hk⟩ := inR_iN (hi := 1) (by decide) h2
          rcases (show k = 0 ∨ k = 1 by omega) with rfl | rfl
          · exact absurd rfl hz
          · rfl
        subst hq1
        obtain ⟨M1, k1, k2⟩ := c81 (X := X) (d := d + 1) (M := M) (a := 0) (g := g) (u := fun j => ix (M.1 87 0 j)) (x2 := 0) q1 hg q2 (fun j hj => (hu j hj).1) (fun j hj => (hu j hj).2)
        rw [if_pos rfl] at k1
        have hm : M1.1 101 0 238 = iN n := by rw [k2.2 _ (fun z => z)]; exact q3
        have cls := e134 (M := M) (M2 := M1) (w134_0 (X := X) (d := d + 2) (p0 := iN g) (p1 := 1) ⟨_, _, c146, bI_if (fun z => by rw [h1] at z; cases z) (fun _ => ⟨_, _, c146, bI_if (fun z => by rw [h2] at z; cases z) (fun _ => ⟨fun _ => ⟨_, _, k1, rfl, rfl⟩, fun z => absurd z (by decide)⟩)⟩)⟩)
        by_cases hn0 : n = 0
        · subst hn0
          refine ⟨_, M1, M1, cls, e258 (w258_0 ⟨_, _, c151, bI_if (fun z => by rw [h1] at z; cases z) (fun _ => ⟨_, _, c151, bI_if (fun z => by rw [h2] at z; cases z) (fun _ => ⟨fun z => absurd rfl z, fun _ => ⟨hi238, fun z => absurd ?_ z, fun _ => ⟨rfl, rfl⟩⟩⟩)⟩)⟩), kp_sub k2 (fun c a z => by omega) (fun _ z => z)⟩
          rw [hx238, hm]
          rfl
        · obtain ⟨M2, k3, k4, k5⟩ := c257 (X := X) (d := d) (M := M1) (g := g) (u := fun j => ix (M.1 87 0 j)) q1 hg hm (fun j hj => (hu j hj).1) (fun j hj => by rw [k2.2 _ (fun z => z)]; exact hv j hj)
          have hv2 : ∀ j, j < n → M2.1 101 0 (597 + j) = iN (ix (M.1 87 0 j)) := fun j hj => by rw [k5.2 _ (fun z => z), k2.2 _ (fun z => z)]; exact hv j hj
          refine ⟨_, M1, M2, cls, e258 (w258_0 ⟨_, _, c151, bI_if (fun z => by rw [h1] at z; cases z) (fun _ => ⟨_, _, c151, bI_if (fun z => by rw [h2] at z; cases z) (fun _ => ⟨fun z => absurd rfl z, fun _ => ⟨hi238, fun _ => ⟨_, k3, fun _ => ?_, fun z => absurd z (by decide)⟩, fun z => absurd z ?_⟩⟩)⟩)⟩), kp_trans (kp_sub k2 (fun c a z => by omega) (fun _ z => z)) (kp_sub k5 (fun c a z => by omega) (fun _ z => z))⟩
          · exact c258_l q1 hg (fun j hj => (hu j hj).1) hv2 k4 n 0 (by omega) (by omega) rfl ⟨rfl, rfl⟩
          · rw [hx238, hm]
            exact fun z => hn0 ((iN_inj (b := 0) (by omega) (by decide)).mp z)
    · have h2 : inR q 0 1 = false := by simpa using h2
      exact ⟨-1, M, M, e134 (w134_0 ⟨_, _, c146, bI_if (fun z => by rw [h1] at z; cases z) (fun _ => ⟨_, _, c146, bI_if (fun _ => ⟨rfl, rfl⟩) (fun z => by rw [h2] at z; cases z)⟩)⟩), e258 (w258_0 ⟨_, _, c151, bI_if (fun z => by rw [h1] at z; cases z) (fun _ => ⟨_, _, c151, bI_if (fun _ => ⟨rfl, rfl⟩) (fun z => by rw [h2] at z; cases z)⟩)⟩), kp_refl⟩
  · have h1 : inR v 0 9 = false := by simpa using h1
    exact ⟨-1, M, M, e134 (w134_0 ⟨_, _, c146, bI_if (fun _ => ⟨rfl, rfl⟩) (fun z => by rw [h1] at z; cases z)⟩), e258 (w258_0 ⟨_, _, c151, bI_if (fun _ => ⟨rfl, rfl⟩) (fun z => by rw [h1] at z; cases z)⟩), kp_refl⟩
