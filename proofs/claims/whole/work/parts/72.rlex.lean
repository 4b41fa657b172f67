/-! the reference's tokens -/
def TpM (M : Mem) (b : Nat → Nat) (n : Nat) : Prop := n ≤ 400 ∧ M.1 100 0 16 = iN n ∧ ∀ j, j < n → M.1 108 0 j = iN (b j) ∧ b j < 256
def wOf : List Nat := [0, 0, 1, 2, 3, 4, 5, 6, 7, 8, 9, 13, 14, 15, 16, 10, 11, 12, 17, 18, 19, 20, 21, 22]
theorem wOf_t : ∀ i : Nat, i < 24 → 1 ≤ i → sBy i = wls.getD (wOf.getD i 0) [] ∧ wOf.getD i 0 < 23 ∧ (sBy i).length ≤ 6 ∧ ∀ j : Nat, j < (sBy i).length → (sBy i).getD j 0 < 256 := by decide +kernel
theorem wls_inj : ∀ u : Nat, u < 23 → ∀ w : Nat, w < 23 → wls.getD u [] = wls.getD w [] → u = w := by decide +kernel
theorem wvF_hit {l : List Nat} {w : Nat} (hw : w < 23) (h : wls.getD w [] = l) : ∀ t : Nat, 23 - w ≤ t → t ≤ 23 → wvF l t = 10000 + w
  | 0, h1, _ => by omega
  | t + 1, h1, h2 => by
    show (if wls.getD (22 - t) [] = l then 10000 + (22 - t) else wvF l t) = 10000 + w
    by_cases hu : wls.getD (22 - t) [] = l
    · rw [if_pos hu, wls_inj (22 - t) (by omega) w hw (by rw [hu, h])]
    · rw [if_neg hu]
      have : 22 - t ≠ w := fun z => hu (by rw [z]; exact h)
      exact wvF_hit hw h t (by omega) (by omega)
theorem wvF_back {l : List Nat} {w : Nat} (hw : w < 23) : ∀ t : Nat, t ≤ 23 → wvF l t = 10000 + w → wls.getD w [] = l
  | 0, _, h => by
    have : (30000 : Nat) = 10000 + w := h
    omega
  | t + 1, ht, h => by
    have h : (if wls.getD (22 - t) [] = l then 10000 + (22 - t) else wvF l t) = 10000 + w := h
    by_cases hu : wls.getD (22 - t) [] = l
    · rw [if_pos hu] at h
      rw [show w = 22 - t by omega]
      exact hu
    · rw [if_neg hu] at h
      exact wvF_back hw t (by omega) h
theorem c168 {X : Cx} {d : Nat} {M : Mem} {b : Nat → Nat} {n p : Nat} (h : TpM M b n) (hp : p ≤ n) : CC X (d + 1) 168 [vR 100 0, vI (iN p)] M (some (vI (if p < n then iN (b p) else -1))) M := by
  obtain ⟨h1, h2, h3⟩ := h
  refine e168 (w168_0 ?_)
  rw [h2]
  by_cases hpn : p < n
  · rw [if_pos hpn, ix_of (by omega), (h3 p hpn).1]
    exact ⟨fun z => absurd ((iN_le (by omega) (by omega)).mp z) (by omega), fun _ => ⟨inb_of (by omega) (by decide), rfl, rfl⟩⟩
  · rw [if_neg hpn]
    exact ⟨fun _ => ⟨rfl, rfl⟩, fun z => absurd ((iN_le (by omega) (by omega)).mpr (by omega)) z⟩
theorem inR_d {c lo hi : Nat} (hc : c < 2147483648) (h1 : lo < 2147483648) (h2 : hi < 2147483648) : inR (iN c) (iN lo) (iN hi) = (decide (lo ≤ c) && decide (c ≤ hi)) := by
  unfold inR
  rw [decide_eq_decide.mpr (iN_le h1 hc), decide_eq_decide.mpr (iN_le hc h2)]
theorem c169 {X : Cx} {d : Nat} {M : Mem} {c : Nat} (hc : c < 256) : CC X (d + 2) 169 [vI (iN c)] M (some (vI (bI (isLc c)))) M := by
  have i1 : inR (iN c) 97 122 = (decide (97 ≤ c) && decide (c ≤ 122)) := inR_d (lo := 97) (hi := 122) (by omega) (by decide) (by decide)
  have i2 : inR (iN c) 65 90 = (decide (65 ≤ c) && decide (c ≤ 90)) := inR_d (lo := 65) (hi := 90) (by omega) (by decide) (by decide)
  have a1 := c151 (X := X) (d := d) (M := M) (v := iN c) (lo := 97) (hi := 122)
  have a2 := c151 (X := X) (d := d) (M := M) (v := iN c) (lo := 65) (hi := 90)
  rw [i1] at a1
  rw [i2] at a2
  unfold isLc
  exact e169 (w169_0 ⟨_, _, a1, bI_if1 (fun h => ⟨isB1, by rw [h]; rfl, rfl⟩) (fun h => ⟨_, _, a2, bI_if (fun h2 => ⟨isB0, by rw [h, h2]; rfl, rfl⟩) (fun h2 => ⟨isB1, by rw [h, h2]; rfl, rfl⟩)⟩)⟩)
theorem c169_m {X : Cx} {d : Nat} {M : Mem} : CC X (d + 2) 169 [vI (-1)] M (some (vI (bI false))) M := by
  have a1 := c151 (X := X) (d := d) (M := M) (v := -1) (lo := 97) (hi := 122)
  have a2 := c151 (X := X) (d := d) (M := M) (v := -1) (lo := 65) (hi := 90)
  rw [show inR (-1) 97 122 = false by decide] at a1
  rw [show inR (-1) 65 90 = false by decide] at a2
  exact e169 (w169_0 ⟨_, _, a1, fun z => absurd rfl z, fun _ => ⟨_, _, a2, fun _ => ⟨isB0, rfl, rfl⟩, fun z => absurd rfl z⟩⟩)
theorem c170 {X : Cx} {d : Nat} {M : Mem} {c : Nat} (hc : c < 256) : CC X (d + 2) 170 [vI (iN c)] M (some (vI (bI (isDc c)))) M := by
  have i1 : inR (iN c) 48 57 = (decide (48 ≤ c) && decide (c ≤ 57)) := inR_d (lo := 48) (hi := 57) (by omega) (by decide) (by decide)
  have a1 := c151 (X := X) (d := d) (M := M) (v := iN c) (lo := 48) (hi := 57)
  rw [i1] at a1
  exact e170 (w170_0 ⟨_, _, a1, isB_bI _, rfl, rfl⟩)
theorem c170_m {X : Cx} {d : Nat} {M : Mem} : CC X (d + 2) 170 [vI (-1)] M (some (vI (bI false))) M := by
  have a1 := c151 (X := X) (d := d) (M := M) (v := -1) (lo := 48) (hi := 57)
  rw [show inR (-1) 48 57 = false by decide] at a1
  exact e170 (w170_0 ⟨_, _, a1, isB0, rfl, rfl⟩)
theorem c171 {X : Cx} {d : Nat} {M : Mem} {b : Nat → Nat} {n s e i : Nat} (hX : StrOk X) (h : TpM M b n) (hse : s ≤ e) (he : e ≤ n) (hi : i < 24) (hi1 : 1 ≤ i) (h19 : M.1 100 0 19 = iN s) (h17 : M.1 100 0 17 = iN e) : CC X (d + 4) 171 [vR 100 0, vR 1 i] M (some (vI (bI (decide (wvF (bys b s e) 23 = 10000 + wOf.getD i 0))))) M := by
  obtain ⟨h1, h2, h3⟩ := h
  obtain ⟨t1, t2, t3, t4⟩ := wOf_t i hi hi1
  have eq : decide (wvF (bys b s e) 23 = 10000 + wOf.getD i 0) = decide (sBy i = bys b s e) := decide_eq_decide.mpr ⟨fun z => by rw [t1]; exact wvF_back t2 23 (Nat.le_refl _) z, fun z => wvF_hit t2 (by rw [← t1]; exact z) 23 (by omega) (Nat.le_refl _)⟩
  rw [eq]
  refine e171 (w171_0 ⟨_, _, hX.1 d M i hi, ?_⟩)
  rw [h17, h19, iN_sub hse]
  -- not alike: no further comparison
  have no : ¬ sBy i = bys b s e → ∀ j : Nat, j ≤ (sBy i).length → V X (d + 4) 171 24 [some (vR 100 0), some (vR 1 i), some (vI 0), some (vI (iN j))] [] M (fun r' M' => r' = some (vI (bI (decide (sBy i = bys b s e)))) ∧ M' = M) := by
    intro hne j hj
    rw [decide_eq_false hne]
    exact w171_24 ⟨_, _, hX.1 d M i hi, fun _ => ⟨isB0, rfl, rfl⟩, fun _ => ⟨fun _ => ⟨isB0, rfl, rfl⟩, fun z => absurd rfl z⟩⟩
  refine ⟨fun z => no (fun y => z (by rw [y, bys_len])) 0 (Nat.zero_le _), fun z => ?_⟩
  have hl : e - s = (sBy i).length := (iN_inj (by omega) (by omega)).mp z
  have run : ∀ (t j : Nat), j + t = (sBy i).length → (∀ q, q < j → (sBy i).getD q 0 = b (s + q)) → V X (d + 4) 171 24 [some (vR 100 0), some (vR 1 i), some (vI 1), some (vI (iN j))] [] M (fun r' M' => r' = some (vI (bI (decide (sBy i = bys b s e)))) ∧ M' = M) := by
    intro t
    induction t with
    | zero =>
      intro j hj hall
      have e1 : sBy i = bys b s e := list_eq (by rw [bys_len]; omega) (fun q hq => by rw [hall q (by omega), bys_get (by omega)])
      rw [decide_eq_true e1]
      exact w171_24 ⟨_, _, hX.1 d M i hi, fun _ => ⟨isB1, rfl, rfl⟩, fun z => absurd ((iN_le (by omega) (by omega)).mpr (by omega)) z⟩
    | succ t ih =>
      intro j hj hall
      refine w171_24 ⟨_, _, hX.1 d M i hi, fun z => absurd ((iN_le (by omega) (by omega)).mp z) (by omega), fun _ => ⟨fun z => absurd z (by decide), fun _ => ?_⟩⟩
      rw [h19, iN_add, ix_of (by omega), (h3 _ (by omega)).1, iN_step]
      refine ⟨inb_of (by omega) (by decide), _, _, hX.2 d M i j hi (by omega), fun z => no (fun y => z ?_) (j + 1) (by omega), fun z => ih (j + 1) (by omega) (fun q hq => ?_)⟩
      · have := congrArg (fun l => List.getD l j 0) y
        rw [bys_get (by omega)] at this
        rw [this]
      · by_cases hqj : q = j
        · rw [hqj]
          have hb := (h3 (s + j) (by omega)).2
          have := t4 j (by omega)
          exact ((iN_inj (by omega) (by omega)).mp z).symm
        · exact hall q (by omega)
  exact run (sBy i).length 0 (by omega) (fun q hq => absurd hq (by omega))
/-! words, as the reference names them in each text -/
def rtA (v : Nat) : Nat := if v = 10000 then 41 else if v = 10001 then 42 else if v = 10002 then 43 else if v = 10003 then 44 else if v = 10004 then 45 else if v = 10005 then 46 else if v = 10006 then 47 else if v = 10007 then 48 else if v = 10008 then 49 else if v = 10009 then 50 else 1
def rt0 (v : Nat) : Nat := if v = 10013 then 3 else if v = 10014 then 4 else if v = 10015 then 5 else if v = 10016 then 6 else if v = 10010 then 20 else if v = 10011 then 21 else if v = 10012 then 22 else rtA v
def rt1 (v : Nat) : Nat := if v = 10017 then 7 else if v = 10018 then 8 else if v = 10019 then 9 else if v = 10020 then 10 else 1
def rt2 (v : Nat) : Nat := if v = 10017 then 7 else if v = 10005 then 11 else if v = 10006 then 12 else if v = 10021 then 13 else 1
def rt3 (v : Nat) : Nat := if v = 10022 then 14 else 1
def rtw (k v : Nat) : Nat := if k = 0 then rt0 v else if k = 1 then rt1 v else if k = 2 then rt2 v else rt3 v
def sgn (c : Nat) : Bool := decide (c = 59) || decide (c = 43) || decide (c = 45) || decide (c = 42) || decide (c = 47) || decide (c = 40) || decide (c = 41) || decide (c = 60) || decide (c = 61) || decide (c = 62)
def rt (k v : Nat) : Nat := if v < 10000 then 2 else if v = 30001 then 0 else if 20000 ≤ v ∧ v < 30000 then (if sgn (v - 20000) = true then 100 + (v - 20000) else 1) else rtw k v
theorem dt {P : Prop} [Decidable P] (h : decide P = true) : P := of_decide_eq_true h
theorem df {P : Prop} [Decidable P] (h : decide P = false) : ¬ P := of_decide_eq_false h
theorem c172 {X : Cx} {d : Nat} {M : Mem} {v : Nat} (ci : ∀ i, i < 24 → 1 ≤ i → CC X d 171 [vR 100 0, vR 1 i] M (some (vI (bI (decide (v = 10000 + wOf.getD i 0))))) M) : CC X (d + 1) 172 [vR 100 0] M (some (vI (iN (rtA v)))) M := by
  refine e172 (w172_0 ⟨_, _, ci 1 (by decide) (by decide), bI_if (fun h1 => ⟨_, _, ci 2 (by decide) (by decide), bI_if (fun h2 => ⟨_, _, ci 3 (by decide) (by decide), bI_if (fun h3 => ⟨_, _, ci 4 (by decide) (by decide), bI_if (fun h4 => ⟨_, _, ci 5 (by decide) (by decide), bI_if (fun h5 => ⟨_, _, ci 6 (by decide) (by decide), bI_if (fun h6 => ⟨_, _, ci 7 (by decide) (by decide), bI_if (fun h7 => ⟨_, _, ci 8 (by decide) (by decide), bI_if (fun h8 => ⟨_, _, ci 9 (by decide) (by decide), bI_if (fun h9 => ⟨_, _, ci 10 (by decide) (by decide), bI_if (fun h10 => ?_) (fun h10 => ?_)⟩) (fun h9 => ?_)⟩) (fun h8 => ?_)⟩) (fun h7 => ?_)⟩) (fun h6 => ?_)⟩) (fun h5 => ?_)⟩) (fun h4 => ?_)⟩) (fun h3 => ?_)⟩) (fun h2 => ?_)⟩) (fun h1 => ?_)⟩)
  · refine ⟨?_, rfl⟩
    unfold rtA
    rw [if_neg (show ¬ v = 10000 from df h1), if_neg (show ¬ v = 10001 from df h2), if_neg (show ¬ v = 10002 from df h3), if_neg (show ¬ v = 10003 from df h4), if_neg (show ¬ v = 10004 from df h5), if_neg (show ¬ v = 10005 from df h6), if_neg (show ¬ v = 10006 from df h7), if_neg (show ¬ v = 10007 from df h8), if_neg (show ¬ v = 10008 from df h9), if_neg (show ¬ v = 10009 from df h10)]
    rfl
  · exact ⟨by rw [dt h10]; rfl, rfl⟩
  · exact ⟨by rw [dt h9]; rfl, rfl⟩
  · exact ⟨by rw [dt h8]; rfl, rfl⟩
  · exact ⟨by rw [dt h7]; rfl, rfl⟩
  · exact ⟨by rw [dt h6]; rfl, rfl⟩
  · exact ⟨by rw [dt h5]; rfl, rfl⟩
  · exact ⟨by rw [dt h4]; rfl, rfl⟩
  · exact ⟨by rw [dt h3]; rfl, rfl⟩
  · exact ⟨by rw [dt h2]; rfl, rfl⟩
  · exact ⟨by rw [dt h1]; rfl, rfl⟩
theorem c173 {X : Cx} {d : Nat} {M : Mem} {v : Nat} (ci : ∀ i, i < 24 → 1 ≤ i → CC X d 171 [vR 100 0, vR 1 i] M (some (vI (bI (decide (v = 10000 + wOf.getD i 0))))) M) (ci2 : ∀ i, i < 24 → 1 ≤ i → CC X (d + 1) 171 [vR 100 0, vR 1 i] M (some (vI (bI (decide (v = 10000 + wOf.getD i 0))))) M) : CC X (d + 2) 173 [vR 100 0] M (some (vI (iN (rt0 v)))) M := by
  refine e173 (w173_0 ⟨_, _, ci2 11 (by decide) (by decide), bI_if (fun h1 => ⟨_, _, ci2 12 (by decide) (by decide), bI_if (fun h2 => ⟨_, _, ci2 13 (by decide) (by decide), bI_if (fun h3 => ⟨_, _, ci2 14 (by decide) (by decide), bI_if (fun h4 => ⟨_, _, ci2 15 (by decide) (by decide), bI_if (fun h5 => ⟨_, _, ci2 16 (by decide) (by decide), bI_if (fun h6 => ⟨_, _, ci2 17 (by decide) (by decide), bI_if (fun h7 => ⟨_, _, c172 ci, ?_⟩) (fun h7 => ?_)⟩) (fun h6 => ?_)⟩) (fun h5 => ?_)⟩) (fun h4 => ?_)⟩) (fun h3 => ?_)⟩) (fun h2 => ?_)⟩) (fun h1 => ?_)⟩)
  · refine ⟨?_, rfl⟩
    unfold rt0
    rw [if_neg (show ¬ v = 10013 from df h1), if_neg (show ¬ v = 10014 from df h2), if_neg (show ¬ v = 10015 from df h3), if_neg (show ¬ v = 10016 from df h4), if_neg (show ¬ v = 10010 from df h5), if_neg (show ¬ v = 10011 from df h6), if_neg (show ¬ v = 10012 from df h7)]
  · exact ⟨by rw [dt h7]; rfl, rfl⟩
  · exact ⟨by rw [dt h6]; rfl, rfl⟩
  · exact ⟨by rw [dt h5]; rfl, rfl⟩
  · exact ⟨by rw [dt h4]; rfl, rfl⟩
  · exact ⟨by rw [dt h3]; rfl, rfl⟩
  · exact ⟨by rw [dt h2]; rfl, rfl⟩
  · exact ⟨by rw [dt h1]; rfl, rfl⟩
theorem c174 {X : Cx} {d : Nat} {M : Mem} {b : Nat → Nat} {n s e k : Nat} (hX : StrOk X) (h : TpM M b n) (hse : s ≤ e) (he : e ≤ n) (hk : k ≤ 3) (h12 : M.1 100 0 12 = iN k) (h19 : M.1 100 0 19 = iN s) (h17 : M.1 100 0 17 = iN e) : CC X (d + 7) 174 [vR 100 0] M (some (vI (iN (rtw k (wvF (bys b s e) 23))))) M := by
  have ci : ∀ (q i : Nat), i < 24 → 1 ≤ i → CC X (d + q + 4) 171 [vR 100 0, vR 1 i] M (some (vI (bI (decide (wvF (bys b s e) 23 = 10000 + wOf.getD i 0))))) M := fun q i hi hi1 => c171 hX h hse he hi hi1 h19 h17
  generalize wvF (bys b s e) 23 = v at ci ⊢
  refine e174 (w174_0 ?_)
  rw [h12]
  rcases (show k = 0 ∨ k = 1 ∨ k = 2 ∨ k = 3 by omega) with rfl | rfl | rfl | rfl
  · exact ⟨fun _ => ⟨_, _, c173 (ci 0) (ci 1), rfl, rfl⟩, fun z => absurd rfl z⟩
  · refine ⟨fun z => absurd z (by decide), fun _ => ⟨fun _ => ⟨_, _, ci 2 18 (by decide) (by decide), bI_if (fun h1 => ⟨_, _, ci 2 19 (by decide) (by decide), bI_if (fun h2 => ⟨_, _, ci 2 20 (by decide) (by decide), bI_if (fun h3 => ⟨_, _, ci 2 21 (by decide) (by decide), bI_if (fun h4 => ?_) (fun h4 => ?_)⟩) (fun h3 => ?_)⟩) (fun h2 => ?_)⟩) (fun h1 => ?_)⟩, fun z => absurd rfl z⟩⟩
    · refine ⟨?_, rfl⟩
      show _ = some (vI (iN (rt1 v)))
      unfold rt1
      rw [if_neg (show ¬ v = 10017 from df h1), if_neg (show ¬ v = 10018 from df h2), if_neg (show ¬ v = 10019 from df h3), if_neg (show ¬ v = 10020 from df h4)]
      rfl
    · exact ⟨by rw [dt h4]; rfl, rfl⟩
    · exact ⟨by rw [dt h3]; rfl, rfl⟩
    · exact ⟨by rw [dt h2]; rfl, rfl⟩
    · exact ⟨by rw [dt h1]; rfl, rfl⟩
  · refine ⟨fun z => absurd z (by decide), fun _ => ⟨fun z => absurd z (by decide), fun _ => ⟨fun _ => ⟨_, _, ci 2 18 (by decide) (by decide), bI_if (fun h1 => ⟨_, _, ci 2 6 (by decide) (by decide), bI_if (fun h2 => ⟨_, _, ci 2 7 (by decide) (by decide), bI_if (fun h3 => ⟨_, _, ci 2 22 (by decide) (by decide), bI_if (fun h4 => ?_) (fun h4 => ?_)⟩) (fun h3 => ?_)⟩) (fun h2 => ?_)⟩) (fun h1 => ?_)⟩, fun z => absurd rfl z⟩⟩⟩
    · refine ⟨?_, rfl⟩
      show _ = some (vI (iN (rt2 v)))
      unfold rt2
      rw [if_neg (show ¬ v = 10017 from df h1), if_neg (show ¬ v = 10005 from df h2), if_neg (show ¬ v = 10006 from df h3), if_neg (show ¬ v = 10021 from df h4)]
      rfl
    · exact ⟨by rw [dt h4]; rfl, rfl⟩
    · exact ⟨by rw [dt h3]; rfl, rfl⟩
    · exact ⟨by rw [dt h2]; rfl, rfl⟩
    · exact ⟨by rw [dt h1]; rfl, rfl⟩
  · refine ⟨fun z => absurd z (by decide), fun _ => ⟨fun z => absurd z (by decide), fun _ => ⟨fun z => absurd z (by decide), fun _ => ⟨_, _, ci 2 23 (by decide) (by decide), bI_if (fun h1 => ?_) (fun h1 => ?_)⟩⟩⟩⟩
    · refine ⟨?_, rfl⟩
      show _ = some (vI (iN (rt3 v)))
      unfold rt3
      rw [if_neg (show ¬ v = 10022 from df h1)]
      rfl
    · exact ⟨by rw [dt h1]; rfl, rfl⟩
abbrev NxP : Nat → Nat → Nat → Prop := fun c a j => c = 100 ∧ a = 0 ∧ (j = 17 ∨ j = 18 ∨ j = 19 ∨ j = 20)
theorem TpM.k {M M2 : Mem} {b : Nat → Nat} {n : Nat} {P : Nat → Nat → Nat → Prop} (h : TpM M b n) (k : K3 P M M2) (h1 : ¬ P 100 0 16) (h2 : ∀ j, ¬ P 108 0 j) : TpM M2 b n := ⟨h.1, by rw [k 100 0 16 h1]; exact h.2.1, fun j hj => by rw [k 108 0 j (h2 j)]; exact h.2.2 j hj⟩
/-- what next0 leaves, from the place p on -/
def NxR (M : Mem) (b : Nat → Nat) (n k p : Nat) : Prop := M.1 100 0 19 = iN (skW b n p) ∧ M.1 100 0 17 = iN (if skW b n p < n then tkE b n (skW b n p) else n) ∧ M.1 100 0 18 = iN (rt k (if skW b n p < n then tkV b n (skW b n p) else 30001)) ∧ (skW b n p < n → tkV b n (skW b n p) < 10000 → M.1 100 0 20 = iN (tkV b n (skW b n p)))
/-- a word -/
theorem c175_let {X : Cx} {d : Nat} {b : Nat → Nat} {n k s : Nat} (hX : StrOk X) (hk : k ≤ 3) (hs : s < n) : ∀ q, s ≤ q → q ≤ n → enP isLc b n q = enP isLc b n s → ∀ M : Mem, TpM M b n → M.1 100 0 12 = iN k → M.1 100 0 19 = iN s → M.1 100 0 17 = iN q → ∃ M', M'.1 100 0 17 = iN (enP isLc b n s) ∧ M'.1 100 0 18 = iN (rtw k (wvF (bys b s (enP isLc b n s)) 23)) ∧ K3 (fun c a j => c = 100 ∧ a = 0 ∧ (j = 17 ∨ j = 18)) M M' ∧ ∀ Q : Option Vl → Mem → Prop, Q none M' → V X (d + 8) 175 76 [some (vR 100 0), none, none] [] M Q := by
  refine enP_ind (P := isLc) (b := b) (n := n) (C := fun q => s ≤ q → q ≤ n → enP isLc b n q = enP isLc b n s → ∀ M : Mem, TpM M b n → M.1 100 0 12 = iN k → M.1 100 0 19 = iN s → M.1 100 0 17 = iN q → ∃ M', M'.1 100 0 17 = iN (enP isLc b n s) ∧ M'.1 100 0 18 = iN (rtw k (wvF (bys b s (enP isLc b n s)) 23)) ∧ K3 (fun c a j => c = 100 ∧ a = 0 ∧ (j = 17 ∨ j = 18)) M M' ∧ ∀ Q : Option Vl → Mem → Prop, Q none M' → V X (d + 8) 175 76 [some (vR 100 0), none, none] [] M Q) (fun q hq hsq hqn he M hT h12 h19 h17 => ?_) (fun q hq1 hq2 ih hsq hqn he M hT h12 h19 h17 => ?_)
  · rw [enP_st hq] at he
    subst he
    have cw := c174 (X := X) (d := d) (M := M) hX hT hsq hqn hk h12 h19 h17
    have cs := c168 (X := X) (d := d + 6) (M := M) hT hqn
    refine ⟨st M 100 0 18 (iN (rtw k (wvF (bys b s (enP isLc b n s)) 23))), by rw [st_ne3 (by omega)]; exact h17, st_at, k3_st ⟨rfl, rfl, Or.inr rfl⟩, fun Q hQ => w175_76 ?_⟩
    rw [h17]
    refine ⟨_, _, cs, ?_⟩
    have hl : ∃ r : Int32, CC X (d + 7) 169 [vI (if enP isLc b n s < n then iN (b (enP isLc b n s)) else -1)] M (some (vI r)) M ∧ r = 0 := by
      by_cases hqn2 : enP isLc b n s < n
      · rw [if_pos hqn2]
        have := c169 (X := X) (d := d + 5) (M := M) (c := b (enP isLc b n s)) (hT.2.2 _ hqn2).2
        rw [show isLc (b (enP isLc b n s)) = false by
          cases hh : isLc (b (enP isLc b n s)) with
          | false => rfl
          | true => exact absurd ⟨hqn2, hh⟩ hq] at this
        exact ⟨_, this, rfl⟩
      · rw [if_neg hqn2]
        exact ⟨_, c169_m, rfl⟩
    obtain ⟨r, hr1, hr2⟩ := hl
    subst hr2
    refine ⟨_, _, hr1, fun _ => ⟨_, _, cw, ?_⟩, fun z => absurd rfl z⟩
    rintro M4 rfl
    exact hQ
  · obtain ⟨M', q1, q2, q3, q4⟩ := ih (by omega) (by omega) (by rw [← enP_go hq1 hq2]; exact he) (st M 100 0 17 (iN (q + 1))) (hT.k (k3_st (P := NxP) (by simp [NxP])) (by simp [NxP]) (fun _ => by simp [NxP])) (by rw [st_ne3 (by omega)]; exact h12) (by rw [st_ne3 (by omega)]; exact h19) st_at
    refine ⟨M', q1, q2, k3_trans (k3_st ⟨rfl, rfl, Or.inl rfl⟩) q3, fun Q hQ => w175_76 ?_⟩
    have cs := c168 (X := X) (d := d + 6) (M := M) hT hqn
    rw [if_pos hq1] at cs
    have cl := c169 (X := X) (d := d + 5) (M := M) (c := b q) (hT.2.2 _ hq1).2
    rw [hq2] at cl
    rw [h17]
    refine ⟨_, _, cs, _, _, cl, fun z => absurd z (by decide), fun _ => ?_⟩
    rw [h17, iN_step]
    rintro M5 rfl
    exact q4 Q hQ
/-- a number -/
theorem c175_dig {X : Cx} {d : Nat} {b : Nat → Nat} {n s : Nat} (hs : s < n) : ∀ q, s ≤ q → q ≤ n → (∀ j, s ≤ j → j < q → isDc (b j) = true) → enP isDc b n q = enP isDc b n s → ∀ M : Mem, TpM M b n → M.1 100 0 19 = iN s → M.1 100 0 17 = iN q → M.1 100 0 20 = iN (nmV b s (min (q - s) 4)) → ∃ M', M'.1 100 0 17 = iN (enP isDc b n s) ∧ M'.1 100 0 18 = iN (if enP isDc b n s - s ≤ 4 then 2 else 1) ∧ (enP isDc b n s - s ≤ 4 → M'.1 100 0 20 = iN (nmV b s (enP isDc b n s - s))) ∧ K3 (fun c a j => c = 100 ∧ a = 0 ∧ (j = 17 ∨ j = 18 ∨ j = 20)) M M' ∧ ∀ Q : Option Vl → Mem → Prop, Q none M' → V X (d + 4) 175 126 [some (vR 100 0), none, none] [] M Q := by
  refine enP_ind (P := isDc) (b := b) (n := n) (C := fun q => s ≤ q → q ≤ n → (∀ j, s ≤ j → j < q → isDc (b j) = true) → enP isDc b n q = enP isDc b n s → ∀ M : Mem, TpM M b n → M.1 100 0 19 = iN s → M.1 100 0 17 = iN q → M.1 100 0 20 = iN (nmV b s (min (q - s) 4)) → ∃ M', M'.1 100 0 17 = iN (enP isDc b n s) ∧ M'.1 100 0 18 = iN (if enP isDc b n s - s ≤ 4 then 2 else 1) ∧ (enP isDc b n s - s ≤ 4 → M'.1 100 0 20 = iN (nmV b s (enP isDc b n s - s))) ∧ K3 (fun c a j => c = 100 ∧ a = 0 ∧ (j = 17 ∨ j = 18 ∨ j = 20)) M M' ∧ ∀ Q : Option Vl → Mem → Prop, Q none M' → V X (d + 4) 175 126 [some (vR 100 0), none, none] [] M Q) (fun q hq hsq hqn hall he M hT h19 h17 h20 => ?_) (fun q hq1 hq2 ih hsq hqn hall he M hT h19 h17 h20 => ?_)
  · rw [enP_st hq] at he
    subst he
    have hn := hT.1
    have cs := c168 (X := X) (d := d + 2) (M := M) hT hqn
    refine ⟨st M 100 0 18 (iN (if enP isDc b n s - s ≤ 4 then 2 else 1)), by rw [st_ne3 (by omega)]; exact h17, st_at, fun h4 => by rw [st_ne3 (by omega), h20, Nat.min_eq_left h4], k3_st ⟨rfl, rfl, Or.inr (Or.inl rfl)⟩, fun Q hQ => w175_126 ?_⟩
    rw [h17]
    refine ⟨_, _, cs, ?_⟩
    have hl : ∃ r : Int32, CC X (d + 3) 170 [vI (if enP isDc b n s < n then iN (b (enP isDc b n s)) else -1)] M (some (vI r)) M ∧ r = 0 := by
      by_cases hqn2 : enP isDc b n s < n
      · rw [if_pos hqn2]
        have := c170 (X := X) (d := d + 1) (M := M) (c := b (enP isDc b n s)) (hT.2.2 _ hqn2).2
        rw [show isDc (b (enP isDc b n s)) = false by
          cases hh : isDc (b (enP isDc b n s)) with
          | false => rfl
          | true => exact absurd ⟨hqn2, hh⟩ hq] at this
        exact ⟨_, this, rfl⟩
      · rw [if_neg hqn2]
        exact ⟨_, c170_m, rfl⟩
    obtain ⟨r, hr1, hr2⟩ := hl
    subst hr2
    refine ⟨_, _, hr1, fun _ => ?_, fun z => absurd rfl z⟩
    rw [h17, h19, iN_sub hsq]
    by_cases h4 : enP isDc b n s - s ≤ 4
    · rw [if_pos h4] at hQ
      refine ⟨fun z => absurd ((iN_le (a := 5) (by decide) (by omega)).mp z) (by omega), fun _ => ?_⟩
      rintro M4 rfl
      exact hQ
    · rw [if_neg h4] at hQ
      refine ⟨fun _ => ?_, fun z => absurd ((iN_le (a := 5) (by decide) (by omega)).mpr (by omega)) z⟩
      rintro M4 rfl
      exact hQ
  · have hn := hT.1
    have hd := hq2
    simp only [isDc, Bool.and_eq_true, decide_eq_true_eq] at hd
    have cs := c168 (X := X) (d := d + 2) (M := M) hT hqn
    rw [if_pos hq1] at cs
    have cl := c170 (X := X) (d := d + 1) (M := M) (c := b q) (hT.2.2 _ hq1).2
    rw [hq2] at cl
    have hall2 : ∀ j, s ≤ j → j < q + 1 → isDc (b j) = true := fun j h1 h2 => by
      by_cases hj : j = q
      · rw [hj]; exact hq2
      · exact hall j h1 (by omega)
    by_cases h4 : s + 4 ≤ q
    · obtain ⟨M', q1, q2, q3, q4, q5⟩ := ih (by omega) (by omega) hall2 (by rw [← enP_go hq1 hq2]; exact he) (st M 100 0 17 (iN (q + 1))) (hT.k (k3_st (P := NxP) (by simp [NxP])) (by simp [NxP]) (fun _ => by simp [NxP])) (by rw [st_ne3 (by omega)]; exact h19) st_at (by rw [st_ne3 (by omega), h20, show min (q + 1 - s) 4 = min (q - s) 4 by omega])
      refine ⟨M', q1, q2, q3, k3_trans (k3_st ⟨rfl, rfl, Or.inl rfl⟩) q4, fun Q hQ => w175_126 ?_⟩
      rw [h17]
      refine ⟨_, _, cs, _, _, cl, fun z => absurd z (by decide), fun _ => ?_⟩
      rw [h17, h19, show iN s + 4 = iN (s + 4) by simp only [iN_lit, iN_add]]
      refine ⟨fun _ => ?_, fun z => absurd ((iN_le (by omega) (by omega)).mpr h4) z⟩
      rw [iN_step]
      rintro M5 rfl
      exact q5 Q hQ
    · have ev : (10 * iN (nmV b s (min (q - s) 4))) + iN (b q) - 48 = iN (nmV b s (min (q + 1 - s) 4)) := by
        rw [show min (q + 1 - s) 4 = (q - s) + 1 by omega, show min (q - s) 4 = q - s by omega, iN_lit 10, iN_mul, iN_add, iN_lit 48, iN_sub (by omega)]
        show _ = iN (nmV b s (q - s) * 10 + (b (s + (q - s)) - 48))
        rw [show s + (q - s) = q by omega]
        congr 1
        omega
      obtain ⟨M', q1, q2, q3, q4, q5⟩ := ih (by omega) (by omega) hall2 (by rw [← enP_go hq1 hq2]; exact he) (st (st M 100 0 20 (iN (nmV b s (min (q + 1 - s) 4)))) 100 0 17 (iN (q + 1))) (hT.k (k3_trans (k3_st (P := NxP) (by simp [NxP])) (k3_st (by simp [NxP]))) (by simp [NxP]) (fun _ => by simp [NxP])) (by rw [st_ne3 (by omega), st_ne3 (by omega)]; exact h19) st_at (by rw [st_ne3 (by omega), st_at])
      refine ⟨M', q1, q2, q3, k3_trans (k3_trans (k3_st ⟨rfl, rfl, Or.inr (Or.inr rfl)⟩) (k3_st ⟨rfl, rfl, Or.inl rfl⟩)) q4, fun Q hQ => w175_126 ?_⟩
      rw [h17]
      refine ⟨_, _, cs, _, _, cl, fun z => absurd z (by decide), fun _ => ?_⟩
      rw [h17, h19, show iN s + 4 = iN (s + 4) by simp only [iN_lit, iN_add]]
      refine ⟨fun z => absurd ((iN_le (by omega) (by omega)).mp z) h4, fun _ => ⟨_, _, cs, ?_⟩⟩
      rw [h20, ev]
      rintro M7 rfl
      rw [st_ne3 (by omega), h17, iN_step]
      rintro M8 rfl
      exact q5 Q hQ
theorem c175_run {X : Cx} {d : Nat} {b : Nat → Nat} {n k : Nat} (hX : StrOk X) (hk : k ≤ 3) : ∀ p, p ≤ n → ∀ M : Mem, TpM M b n → M.1 100 0 12 = iN k → M.1 100 0 17 = iN p → ∃ M', NxR M' b n k p ∧ K3 NxP M M' ∧ ∀ Q : Option Vl → Mem → Prop, Q none M' → V X (d + 8) 175 0 [some (vR 100 0), none, none] [] M Q := by
  refine enP_ind (P := isWc) (b := b) (n := n) (C := fun p => p ≤ n → ∀ M : Mem, TpM M b n → M.1 100 0 12 = iN k → M.1 100 0 17 = iN p → ∃ M', NxR M' b n k p ∧ K3 NxP M M' ∧ ∀ Q : Option Vl → Mem → Prop, Q none M' → V X (d + 8) 175 0 [some (vR 100 0), none, none] [] M Q) (fun p hp hpn M hT h12 h17 => ?_) (fun p hp1 hp2 ih hpn M hT h12 h17 => ?_)
  · have hsk : skW b n p = p := enP_st hp
    have hn := hT.1
    unfold NxR
    rw [hsk]
    have cs (M : Mem) (hT : TpM M b n) := c168 (X := X) (d := d + 6) (M := M) hT hpn
    have hT1 : TpM (st M 100 0 19 (iN p)) b n := hT.k (k3_st (P := NxP) (by simp [NxP])) (by simp [NxP]) (fun _ => by simp [NxP])
    have h17' : (st M 100 0 19 (iN p)).1 100 0 17 = iN p := by rw [st_ne3 (by omega)]; exact h17
    by_cases hpn2 : p < n
    · have hb := (hT.2.2 p hpn2).2
      have hw : isWc (b p) = false := by
        cases hh : isWc (b p) with
        | false => rfl
        | true => exact absurd ⟨hpn2, hh⟩ hp
      simp only [isWc, Bool.or_eq_false_iff, decide_eq_false_iff_not] at hw
      have w1 : (iN (b p) = 32) = False := neq_ (b := 32) (by omega) (by decide) hw.1
      have w2 : (iN (b p) = 10) = False := neq_ (b := 10) (by omega) (by decide) hw.2
      have w3 : ¬ iN (b p) = -1 := iN_m1' (by omega)
      have cl := c169 (X := X) (d := d + 5) (M := st M 100 0 19 (iN p)) (c := b p) hb
      have cd := c170 (X := X) (d := d + 5) (M := st M 100 0 19 (iN p)) (c := b p) hb
      have ent : ∀ Q : Option Vl → Mem → Prop, (∃ (r4 : Int32) (M6 : Mem), CC X (d + 7) 169 [vI (iN (b p))] (st M 100 0 19 (iN p)) (some (vI r4)) M6 ∧ (r4 = 0 → ∃ (r5 : Int32) (M7 : Mem), CC X (d + 7) 170 [vI (iN (b p))] M6 (some (vI r5)) M7 ∧ (r5 = 0 → Q none (st (st M7 100 0 17 ((M7.1 100 0 17) + 1)) 100 0 18 (if sgn (b p) = true then 100 + iN (b p) else 1))) ∧ (¬ r5 = 0 → V X (d + 8) 175 126 [some (vR 100 0), none, none] [] (st M7 100 0 20 0) Q)) ∧ (¬ r4 = 0 → V X (d + 8) 175 76 [some (vR 100 0), none, none] [] M6 Q)) → V X (d + 8) 175 0 [some (vR 100 0), none, none] [] M Q := by
        intro Q hQ
        refine w175_0 ?_
        have cs0 := cs M hT
        have cs1 := cs _ hT1
        rw [if_pos hpn2] at cs0 cs1
        rw [h17]
        refine ⟨_, _, cs0, ?_⟩
        simp only [forall_eq, true_implies, false_implies, not_true_eq_false, not_false_eq_true, and_true, true_and, and_self, isB0, isB1, bI_t0, bI_f0, i10_, i20_, i01_, i02_, i12_, i21_, w1, h17]
        refine ⟨_, _, cs0, ?_⟩
        simp only [forall_eq, true_implies, false_implies, not_true_eq_false, not_false_eq_true, and_true, true_and, and_self, isB0, isB1, bI_t0, bI_f0, i10_, i20_, i01_, i02_, i12_, i21_, w2, h17, h17']
        refine ⟨_, _, cs1, ?_⟩
        simp only [forall_eq, true_implies, false_implies, not_true_eq_false, not_false_eq_true, and_true, true_and, and_self, isB0, isB1, bI_t0, bI_f0, i10_, i20_, i01_, i02_, i12_, i21_, w3]
        obtain ⟨r4, M6, g1, g2, g3⟩ := hQ
        refine ⟨r4, M6, g1, fun z => ?_, g3⟩
        obtain ⟨r5, M7, f1, f2, f3⟩ := g2 z
        refine ⟨r5, M7, f1, fun z5 => ?_, f3⟩
        have f2 := f2 z5
        have sg : ∀ c : Nat, c < 2147483648 → (iN (b p) = iN c) = (b p = c) := fun c hc => propext (iN_inj (by omega) hc)
        have s59 : (iN (b p) = 59) = (b p = 59) := sg 59 (by decide)
        have s43 : (iN (b p) = 43) = (b p = 43) := sg 43 (by decide)
        have s45 : (iN (b p) = 45) = (b p = 45) := sg 45 (by decide)
        have s42 : (iN (b p) = 42) = (b p = 42) := sg 42 (by decide)
        have s47 : (iN (b p) = 47) = (b p = 47) := sg 47 (by decide)
        have s40 : (iN (b p) = 40) = (b p = 40) := sg 40 (by decide)
        have s41 : (iN (b p) = 41) = (b p = 41) := sg 41 (by decide)
        have s60 : (iN (b p) = 60) = (b p = 60) := sg 60 (by decide)
        have s61 : (iN (b p) = 61) = (b p = 61) := sg 61 (by decide)
        have s62 : (iN (b p) = 62) = (b p = 62) := sg 62 (by decide)
        simp only [forall_eq, true_implies, false_implies, not_true_eq_false, not_false_eq_true, and_true, true_and, and_self, isB0, isB1, bI_t0, bI_f0, i10_, i20_, i01_, i02_, i12_, i21_, s59, s43, s45, s42, s47, s40, s41, s60, s61, s62]
        have tr : sgn (b p) = true → (if sgn (b p) = true then 100 + iN (b p) else 1) = 100 + iN (b p) := fun h => if_pos h
        refine ⟨fun y => by rw [tr (by rw [y]; rfl)] at f2; exact f2, fun y1 => ⟨fun y => by rw [tr (by rw [y]; rfl)] at f2; exact f2, fun y2 => ⟨fun y => by rw [tr (by rw [y]; rfl)] at f2; exact f2, fun y3 => ⟨fun y => by rw [tr (by rw [y]; rfl)] at f2; exact f2, fun y4 => ⟨fun y => by rw [tr (by rw [y]; rfl)] at f2; exact f2, fun y5 => ⟨fun y => by rw [tr (by rw [y]; rfl)] at f2; exact f2, fun y6 => ⟨fun y => by rw [tr (by rw [y]; rfl)] at f2; exact f2, fun y7 => ⟨fun y => by rw [tr (by rw [y]; rfl)] at f2; exact f2, fun y8 => ⟨fun y => by rw [tr (by rw [y]; rfl)] at f2; exact f2, fun y9 => ⟨fun y => ?_, fun y => by rw [tr (by rw [y]; rfl)] at f2; exact f2⟩⟩⟩⟩⟩⟩⟩⟩⟩⟩
        have : sgn (b p) = false := by simp [sgn, y1, y2, y3, y4, y5, y6, y7, y8, y9, y]
        rw [if_neg (by rw [this]; decide)] at f2
        exact f2
      have hte := tkE_b (b := b) hpn2
      by_cases hlet : isLc (b p) = true
      · rw [hlet] at cl
        have ev : tkV b n p = wvF (bys b p (enP isLc b n p)) 23 := if_pos hlet
        have ee : tkE b n p = enP isLc b n p := if_pos hlet
        obtain ⟨M', q1, q2, q3, q4⟩ := c175_let (X := X) (d := d) (b := b) (n := n) (k := k) (s := p) hX hk hpn2 p (Nat.le_refl _) hpn rfl (st M 100 0 19 (iN p)) hT1 (by rw [st_ne3 (by omega)]; exact h12) st_at h17'
        refine ⟨M', ⟨by rw [q3 100 0 19 (by omega), st_at], by rw [if_pos hpn2, ee]; exact q1, ?_, fun _ h => ?_⟩, k3_trans (k3_st ⟨rfl, rfl, by omega⟩) (k3_sub q3 (fun c a j z => ⟨z.1, z.2.1, by omega⟩)), fun Q hQ => ent Q ⟨_, _, cl, fun z => absurd z (by decide), fun _ => q4 Q hQ⟩⟩
        · rw [if_pos hpn2, ev, q2]
          rcases wvF_b (l := bys b p (enP isLc b n p)) 23 with h2 | h2
          · rw [h2]
            rcases (show k = 0 ∨ k = 1 ∨ k = 2 ∨ k = 3 by omega) with rfl | rfl | rfl | rfl <;> rfl
          · unfold rt
            rw [if_neg (by omega), if_neg (by omega), if_neg (by omega)]
        · rw [ev] at h
          rcases wvF_b (l := bys b p (enP isLc b n p)) 23 with h2 | h2 <;> omega
      · have hlet0 : isLc (b p) = false := by simpa using hlet
        rw [hlet0] at cl
        by_cases hdig : isDc (b p) = true
        · rw [hdig] at cd
          have ev : tkV b n p = (if enP isDc b n p - p ≤ 4 then nmV b p (enP isDc b n p - p) else 30000) := (if_neg hlet).trans (if_pos hdig)
          have ee : tkE b n p = enP isDc b n p := (if_neg hlet).trans (if_pos hdig)
          obtain ⟨M', q1, q2, q3, q4, q5⟩ := c175_dig (X := X) (d := d + 4) (b := b) (n := n) (s := p) hpn2 p (Nat.le_refl _) hpn (fun j h1 h2 => absurd h2 (by omega)) rfl (st (st M 100 0 19 (iN p)) 100 0 20 0) (hT1.k (k3_st (P := NxP) (by simp [NxP])) (by simp [NxP]) (fun _ => by simp [NxP])) (by rw [st_ne3 (by omega), st_at]) (by rw [st_ne3 (by omega)]; exact h17') (by rw [st_at, Nat.sub_self, Nat.zero_min]; rfl)
          refine ⟨M', ⟨by rw [q4 100 0 19 (by omega), st_ne3 (by omega), st_at], by rw [if_pos hpn2, ee]; exact q1, ?_, fun _ h => ?_⟩, k3_trans (k3_trans (k3_st ⟨rfl, rfl, by omega⟩) (k3_st ⟨rfl, rfl, by omega⟩)) (k3_sub q4 (fun c a j z => ⟨z.1, z.2.1, by omega⟩)), fun Q hQ => ent Q ⟨_, _, cl, fun _ => ⟨_, _, cd, fun z => absurd z (by decide), fun _ => q5 Q hQ⟩, fun z => absurd rfl z⟩⟩
          · rw [if_pos hpn2, ev, q2]
            by_cases h4 : enP isDc b n p - p ≤ 4
            · rw [if_pos h4, if_pos h4]
              have := nmV_lt (b := b) (s := p) (enP isDc b n p - p) (fun j hj => enP_all (P := isDc) (b := b) (n := n) p (p + j) (by omega) (by omega))
              have h5 : 10 ^ (enP isDc b n p - p) ≤ 10 ^ 4 := Nat.pow_le_pow_right (by decide) h4
              unfold rt
              rw [if_pos (by omega)]
            · rw [if_neg h4, if_neg h4]
              rcases (show k = 0 ∨ k = 1 ∨ k = 2 ∨ k = 3 by omega) with rfl | rfl | rfl | rfl <;> rfl
          · rw [ev] at h ⊢
            by_cases h4 : enP isDc b n p - p ≤ 4
            · rw [if_pos h4]
              exact q3 h4
            · rw [if_neg h4] at h
              omega
        · have hdig0 : isDc (b p) = false := by simpa using hdig
          rw [hdig0] at cd
          have ev : tkV b n p = 20000 + b p := (if_neg hlet).trans (if_neg hdig)
          have ee : tkE b n p = p + 1 := (if_neg hlet).trans (if_neg hdig)
          refine ⟨st (st (st M 100 0 19 (iN p)) 100 0 17 (iN (p + 1))) 100 0 18 (if sgn (b p) = true then 100 + iN (b p) else 1), ⟨by rw [st_ne3 (by omega), st_ne3 (by omega), st_at], by rw [if_pos hpn2, ee, st_ne3 (by omega), st_at], ?_, fun _ h => absurd h (by rw [ev]; omega)⟩, k3_trans (k3_trans (k3_st ⟨rfl, rfl, by omega⟩) (k3_st ⟨rfl, rfl, by omega⟩)) (k3_st ⟨rfl, rfl, by omega⟩), fun Q hQ => ent Q ⟨_, _, cl, fun _ => ⟨_, _, cd, fun _ => ?_, fun z => absurd rfl z⟩, fun z => absurd rfl z⟩⟩
          · have er : rt k (20000 + b p) = (if sgn (b p) = true then 100 + b p else 1) := by
              unfold rt
              rw [if_neg (show ¬ 20000 + b p < 10000 by omega), if_neg (show ¬ 20000 + b p = 30001 by omega), if_pos (show 20000 ≤ 20000 + b p ∧ 20000 + b p < 30000 by omega), Nat.add_sub_cancel_left]
            rw [if_pos hpn2, ev, st_at, er]
            by_cases hs : sgn (b p) = true
            · rw [if_pos hs, if_pos hs, iN_lit 100, iN_add]
            · rw [if_neg hs, if_neg hs]
              rfl
          · rw [h17', iN_step]
            exact hQ
    · have hpe : p = n := by omega
      subst hpe
      have cs0 := cs M hT
      have cs1 := cs _ hT1
      rw [if_neg hpn2] at cs0 cs1
      refine ⟨st (st M 100 0 19 (iN p)) 100 0 18 0, ⟨by rw [st_ne3 (by omega), st_at], by rw [if_neg hpn2, st_ne3 (by omega)]; exact h17', by rw [if_neg hpn2, st_at]; rfl, fun h => absurd h hpn2⟩, k3_trans (k3_st ⟨rfl, rfl, by omega⟩) (k3_st ⟨rfl, rfl, by omega⟩), fun Q hQ => w175_0 ?_⟩
      rw [h17]
      refine ⟨_, _, cs0, ?_⟩
      simp only [forall_eq, true_implies, false_implies, not_true_eq_false, not_false_eq_true, and_true, true_and, and_self, isB0, isB1, bI_t0, bI_f0, i10_, i20_, i01_, i02_, i12_, i21_, show ((-1 : Int32) = 32) = False from by decide, h17]
      refine ⟨_, _, cs0, ?_⟩
      simp only [forall_eq, true_implies, false_implies, not_true_eq_false, not_false_eq_true, and_true, true_and, and_self, isB0, isB1, bI_t0, bI_f0, i10_, i20_, i01_, i02_, i12_, i21_, show ((-1 : Int32) = 10) = False from by decide, h17, h17']
      refine ⟨_, _, cs1, ?_⟩
      simp only [forall_eq, true_implies, false_implies, not_true_eq_false, not_false_eq_true, and_true, true_and, and_self, isB0, isB1, bI_t0, bI_f0, i10_, i20_, i01_, i02_, i12_, i21_]
      exact hQ
  · have hb := (hT.2.2 p hp1).2
    obtain ⟨M', q1, q2, q3⟩ := ih (by omega) (st M 100 0 17 (iN (p + 1))) (hT.k (k3_st (P := NxP) (by simp [NxP])) (by simp [NxP]) (fun _ => by simp [NxP])) (by rw [st_ne3 (by omega)]; exact h12) st_at
    have hsk : skW b n p = skW b n (p + 1) := enP_go hp1 hp2
    refine ⟨M', by unfold NxR; rw [hsk]; exact q1, k3_trans (k3_st ⟨rfl, rfl, by omega⟩) q2, fun Q hQ => w175_0 ?_⟩
    have cs := c168 (X := X) (d := d + 6) (M := M) hT hpn
    rw [if_pos hp1] at cs
    simp only [isWc, Bool.or_eq_true, decide_eq_true_eq] at hp2
    rw [h17]
    refine ⟨_, _, cs, ?_⟩
    rcases hp2 with h | h
    · simp only [forall_eq, true_implies, false_implies, not_true_eq_false, not_false_eq_true, and_true, true_and, and_self, isB0, isB1, bI_t0, bI_f0, i10_, i20_, i01_, i02_, i12_, i21_, h, show (iN 32 = 32) = True from eq_true rfl, h17, iN_step]
      exact q3 Q hQ
    · simp only [forall_eq, true_implies, false_implies, not_true_eq_false, not_false_eq_true, and_true, true_and, and_self, isB0, isB1, bI_t0, bI_f0, i10_, i20_, i01_, i02_, i12_, i21_, h, show (iN 10 = 32) = False from by decide, h17]
      rw [h] at cs
      refine ⟨_, _, cs, ?_⟩
      simp only [forall_eq, true_implies, false_implies, not_true_eq_false, not_false_eq_true, and_true, true_and, and_self, isB0, isB1, bI_t0, bI_f0, i10_, i20_, i01_, i02_, i12_, i21_, show (iN 10 = 10) = True from eq_true rfl, h17, iN_step]
      exact q3 Q hQ
/-- the reference stands at token i -/
def RS (M : Mem) (b : Nat → Nat) (n k i : Nat) : Prop := TpM M b n ∧ M.1 100 0 12 = iN k ∧ M.1 100 0 19 = iN (ps b n i) ∧ M.1 100 0 17 = iN (if ps b n i < n then tkE b n (ps b n i) else n) ∧ M.1 100 0 18 = iN (rt k (tk b n i)) ∧ (tk b n i < 10000 → M.1 100 0 20 = iN (tk b n i))
theorem c175 {X : Cx} {d : Nat} {M : Mem} {b : Nat → Nat} {n k i : Nat} (hX : StrOk X) (hk : k ≤ 3) (h : RS M b n k i) : ∃ M', CC X (d + 8) 175 [vR 100 0] M none M' ∧ RS M' b n k (i + 1) ∧ K3 NxP M M' := by
  obtain ⟨h1, h2, h3, h4, h5, h6⟩ := h
  have hps := ps_le (b := b) (n := n) i
  obtain ⟨M', q1, q2, q3⟩ := c175_run (X := X) (d := d) (b := b) (n := n) (k := k) hX hk (if ps b n i < n then tkE b n (ps b n i) else n) (by
    by_cases hh : ps b n i < n
    · rw [if_pos hh]; exact (tkE_b hh).2
    · rw [if_neg hh]; exact Nat.le_refl _) M h1 h2 h4
  have e : skW b n (if ps b n i < n then tkE b n (ps b n i) else n) = ps b n (i + 1) := by
    by_cases hh : ps b n i < n
    · rw [if_pos hh, ps_go hh]
    · rw [if_neg hh, ps_st hh, show ps b n i = n by omega]
      exact enP_st (fun z => absurd z.1 (by omega))
  unfold NxR at q1
  rw [e] at q1
  obtain ⟨a1, a2, a3, a4⟩ := q1
  refine ⟨M', e175 (q3 _ ⟨rfl, rfl⟩), ⟨h1.k q2 (by simp [NxP]) (fun _ => by simp [NxP]), by rw [q2 100 0 12 (by simp [NxP])]; exact h2, a1, a2, a3, fun hlt => ?_⟩, q2⟩
  unfold tk at hlt ⊢
  by_cases hh : ps b n (i + 1) < n
  · rw [if_pos hh] at hlt ⊢
    exact a4 hh hlt
  · rw [if_neg hh] at hlt
    omega
theorem c175_0 {X : Cx} {d : Nat} {M : Mem} {b : Nat → Nat} {n k : Nat} (hX : StrOk X) (hk : k ≤ 3) (hT : TpM M b n) (h12 : M.1 100 0 12 = iN k) (h17 : M.1 100 0 17 = 0) : ∃ M', CC X (d + 8) 175 [vR 100 0] M none M' ∧ RS M' b n k 0 ∧ K3 NxP M M' := by
  obtain ⟨M', q1, q2, q3⟩ := c175_run (X := X) (d := d) (b := b) (n := n) (k := k) hX hk 0 (Nat.zero_le _) M hT h12 h17
  obtain ⟨a1, a2, a3, a4⟩ := q1
  refine ⟨M', e175 (q3 _ ⟨rfl, rfl⟩), ⟨hT.k q2 (by simp [NxP]) (fun _ => by simp [NxP]), by rw [q2 100 0 12 (by simp [NxP])]; exact h12, a1, a2, a3, fun hlt => ?_⟩, q2⟩
  unfold tk at hlt ⊢
  by_cases hh : ps b n 0 < n
  · rw [if_pos hh] at hlt ⊢
    exact a4 hh hlt
  · rw [if_neg hh] at hlt
    omega
