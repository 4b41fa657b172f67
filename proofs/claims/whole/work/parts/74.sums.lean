/-! sums and products, read by both -/
abbrev Rs : Type := (Nat × Cds) ⊕ (Nat × Nat)
def rsC (post : Nat → Cds → Prop) (bad : Nat → Nat → Prop) : Rs → Prop
  | .inl (j, nw) => post j nw
  | .inr (e, p) => bad e p
def okB : Rs → Int32
  | .inl _ => 1
  | .inr _ => 0
def rP (pre : Cds) : Rs → Rs
  | .inl (j, nw) => .inl (j, pre ++ nw)
  | .inr z => .inr z
/-! the reference's words against the class's -/
theorem rtA_o {v : Nat} (h : v < 10000 ∨ 10009 < v) : rtA v = 1 := by
  unfold rtA
  rw [if_neg (by omega), if_neg (by omega), if_neg (by omega), if_neg (by omega), if_neg (by omega), if_neg (by omega), if_neg (by omega), if_neg (by omega), if_neg (by omega), if_neg (by omega)]
theorem rtA_i {v : Nat} (h : 10000 ≤ v ∧ v < 10010) : rtA v = v - 9959 := by
  rcases (show v = 10000 ∨ v = 10001 ∨ v = 10002 ∨ v = 10003 ∨ v = 10004 ∨ v = 10005 ∨ v = 10006 ∨ v = 10007 ∨ v = 10008 ∨ v = 10009 by omega) with rfl | rfl | rfl | rfl | rfl | rfl | rfl | rfl | rfl | rfl <;> rfl
theorem rt0_o {v : Nat} (h : v < 10010 ∨ 10016 < v) : rt0 v = rtA v := by
  unfold rt0
  rw [if_neg (by omega), if_neg (by omega), if_neg (by omega), if_neg (by omega), if_neg (by omega), if_neg (by omega), if_neg (by omega)]
theorem rt0_i {v : Nat} (h : 10010 ≤ v ∧ v ≤ 10016) : rt0 v = if v ≤ 10012 then v - 9990 else v - 10010 := by
  rcases (show v = 10010 ∨ v = 10011 ∨ v = 10012 ∨ v = 10013 ∨ v = 10014 ∨ v = 10015 ∨ v = 10016 by omega) with rfl | rfl | rfl | rfl | rfl | rfl | rfl <;> rfl
theorem rt0_c (v : Nat) : (rt0 v = 1 ∧ (v < 10000 ∨ 10016 < v)) ∨ (10000 ≤ v ∧ v < 10010 ∧ rt0 v = v - 9959) ∨ (10010 ≤ v ∧ v ≤ 10012 ∧ rt0 v = v - 9990) ∨ (10013 ≤ v ∧ v ≤ 10016 ∧ rt0 v = v - 10010) := by
  by_cases h1 : v < 10010 ∨ 10016 < v
  · rw [rt0_o h1]
    by_cases h2 : 10000 ≤ v ∧ v < 10010
    · exact Or.inr (Or.inl ⟨h2.1, h2.2, rtA_i h2⟩)
    · exact Or.inl ⟨rtA_o (by omega), by omega⟩
  · rw [rt0_i (by omega)]
    by_cases h2 : v ≤ 10012
    · rw [if_pos h2]
      omega
    · rw [if_neg h2]
      omega
theorem rt1_c (v : Nat) : (rt1 v = 1 ∧ (v < 10017 ∨ 10020 < v)) ∨ (10017 ≤ v ∧ v ≤ 10020 ∧ rt1 v = v - 10010) := by
  rcases (show v = 10017 ∨ v = 10018 ∨ v = 10019 ∨ v = 10020 ∨ (v < 10017 ∨ 10020 < v) by omega) with rfl | rfl | rfl | rfl | h
  iterate 4 exact Or.inr ⟨by decide, by decide, rfl⟩
  · refine Or.inl ⟨?_, h⟩
    unfold rt1
    rw [if_neg (by omega), if_neg (by omega), if_neg (by omega), if_neg (by omega)]
theorem rt2_c (v : Nat) : (rt2 v = 1 ∧ ¬ (v = 10017 ∨ v = 10005 ∨ v = 10006 ∨ v = 10021)) ∨ (v = 10017 ∧ rt2 v = 7) ∨ (v = 10005 ∧ rt2 v = 11) ∨ (v = 10006 ∧ rt2 v = 12) ∨ (v = 10021 ∧ rt2 v = 13) := by
  rcases (show v = 10017 ∨ v = 10005 ∨ v = 10006 ∨ v = 10021 ∨ (¬ (v = 10017 ∨ v = 10005 ∨ v = 10006 ∨ v = 10021)) by omega) with rfl | rfl | rfl | rfl | h
  · exact Or.inr (Or.inl ⟨rfl, rfl⟩)
  · exact Or.inr (Or.inr (Or.inl ⟨rfl, rfl⟩))
  · exact Or.inr (Or.inr (Or.inr (Or.inl ⟨rfl, rfl⟩)))
  · exact Or.inr (Or.inr (Or.inr (Or.inr ⟨rfl, rfl⟩)))
  · refine Or.inl ⟨?_, h⟩
    unfold rt2
    rw [if_neg (by omega), if_neg (by omega), if_neg (by omega), if_neg (by omega)]
theorem rt3_c (v : Nat) : (rt3 v = 1 ∧ v ≠ 10022) ∨ (v = 10022 ∧ rt3 v = 14) := by
  unfold rt3
  by_cases h : v = 10022
  · exact Or.inr ⟨h, if_pos h⟩
  · exact Or.inl ⟨if_neg h, h⟩
theorem rtw_le {k v : Nat} : rtw k v ≤ 50 ∧ (rtw k v = 1 ∨ (3 ≤ rtw k v ∧ 10000 ≤ v ∧ v < 10023)) := by
  have a0 := rt0_c v
  have a1 := rt1_c v
  have a2 := rt2_c v
  have a3 := rt3_c v
  unfold rtw
  repeat' split
  all_goals omega
theorem rt_w {k v : Nat} (h : 10000 ≤ v) (h2 : v < 20000) : rt k v = rtw k v := by
  unfold rt
  rw [if_neg (by omega), if_neg (by omega), if_neg (by omega)]
theorem rt_l {k v : Nat} : ∀ r, rt k v = r → 3 ≤ r → r < 100 → 10000 ≤ v ∧ v < 20000 := by
  intro r h h1 h2
  have h3 := rtw_le (k := k) (v := v)
  unfold rt at h
  repeat' split at h
  all_goals omega
theorem rt_sg {k v c : Nat} (hs : sgn c = true) (hc : c < 256) (h40 : 40 ≤ c) : (rt k v = 100 + c) = (v = 20000 + c) := by
  refine propext ⟨fun h => ?_, fun h => ?_⟩
  · have h1 := rtw_le (k := k) (v := v)
    unfold rt at h
    repeat' split at h
    all_goals omega
  · subst h
    unfold rt
    rw [if_neg (by omega), if_neg (by omega), if_pos (by omega), Nat.add_sub_cancel_left, if_pos hs]
theorem rt_num {k v : Nat} : (rt k v = 2) = (v < 10000) := by
  refine propext ⟨fun h => ?_, fun h => if_pos h⟩
  have h1 := rtw_le (k := k) (v := v)
  unfold rt at h
  repeat' split at h
  all_goals omega
theorem rt_end {k v : Nat} : (rt k v = 0) = (v = 30001) := by
  refine propext ⟨fun h => ?_, fun h => by subst h; rfl⟩
  have h1 := rtw_le (k := k) (v := v)
  unfold rt at h
  repeat' split at h
  all_goals omega
theorem rt_b {k v : Nat} (hv : v ≤ 30001) : rt k v ≤ 10200 := by
  have h1 := rtw_le (k := k) (v := v)
  unfold rt
  repeat' split
  all_goals omega
theorem rt_w0 {v w r : Nat} (h : (w = 10013 ∧ r = 3) ∨ (w = 10014 ∧ r = 4) ∨ (w = 10015 ∧ r = 5) ∨ (w = 10016 ∧ r = 6) ∨ (w = 10010 ∧ r = 20) ∨ (w = 10011 ∧ r = 21) ∨ (w = 10012 ∧ r = 22)) : (rt 0 v = r) = (v = w) := by
  refine propext ⟨fun h2 => ?_, fun h2 => ?_⟩
  · have h3 := rt_l r h2 (by omega) (by omega)
    rw [rt_w h3.1 h3.2] at h2
    have h2 : rt0 v = r := h2
    have h4 := rt0_c v
    omega
  · subst h2
    rcases h with ⟨rfl, rfl⟩ | ⟨rfl, rfl⟩ | ⟨rfl, rfl⟩ | ⟨rfl, rfl⟩ | ⟨rfl, rfl⟩ | ⟨rfl, rfl⟩ | ⟨rfl, rfl⟩ <;> rfl
theorem rt_nm {v : Nat} : (41 ≤ rt 0 v ∧ rt 0 v ≤ 50) = (10000 ≤ v ∧ v < 10010) := by
  refine propext ⟨fun h => ?_, fun h => ?_⟩
  · have h3 := rt_l (rt 0 v) rfl (by omega) (by omega)
    rw [rt_w h3.1 h3.2] at h
    have h : 41 ≤ rt0 v ∧ rt0 v ≤ 50 := h
    have h4 := rt0_c v
    omega
  · rw [rt_w (by omega) (by omega)]
    show 41 ≤ rt0 v ∧ rt0 v ≤ 50
    have h4 := rt0_c v
    omega
theorem rt_nv {v : Nat} (h : 10000 ≤ v ∧ v < 10010) : rt 0 v = v - 9959 := by
  rcases (show v = 10000 ∨ v = 10001 ∨ v = 10002 ∨ v = 10003 ∨ v = 10004 ∨ v = 10005 ∨ v = 10006 ∨ v = 10007 ∨ v = 10008 ∨ v = 10009 by omega) with rfl | rfl | rfl | rfl | rfl | rfl | rfl | rfl | rfl | rfl <;> rfl
theorem i_eq {a b : Nat} (ha : a < 2147483648) (hb : b < 2147483648) : (iN a = iN b) = (a = b) := propext (iN_inj ha hb)
/-! the reference reads -/
def Bad (M : Mem) (b : Nat → Nat) (n e p : Nat) : Prop := M.1 100 0 21 = iN e ∧ M.1 100 0 22 = iN (ps b n p)
def SgF (M : Mem) (cs : Cds) : Prop := M.1 100 0 14 = iN cs.length ∧ ∀ (q s v : Nat), cs[q]? = some (s, v) → M.1 106 0 (2 * q) = iN s ∧ ((s = 0 ∨ s = 26) → M.1 106 0 (2 * q + 1) = iN v)
def RL (M : Mem) (b : Nat → Nat) (n m i : Nat) (cs : Cds) : Prop := RS M b n 0 i ∧ i ≤ m ∧ SgF M cs ∧ cs.length ≤ 400
abbrev RfP : Nat → Nat → Nat → Prop := fun c a j => a = 0 ∧ ((c = 100 ∧ (j = 14 ∨ j = 17 ∨ j = 18 ∨ j = 19 ∨ j = 20 ∨ j = 21 ∨ j = 22)) ∨ c = 106)
theorem Nx_r : ∀ c a j, NxP c a j → RfP c a j := fun c a j h => by simp only [NxP] at h; simp only [RfP]; omega
theorem c176 {X : Cx} {d : Nat} {M : Mem} {b : Nat → Nat} {n k i e : Nat} (h : RS M b n k i) : ∃ M', CC X (d + 1) 176 [vR 100 0, vI (iN e)] M (some (vI 0)) M' ∧ Bad M' b n e i ∧ K3 (fun c a j => c = 100 ∧ a = 0 ∧ (j = 21 ∨ j = 22)) M M' := by
  refine ⟨st (st M 100 0 21 (iN e)) 100 0 22 (iN (ps b n i)), e176 (w176_0 ?_), ⟨by rw [st_ne3 (by omega), st_at], st_at⟩, k3_trans (k3_st ⟨rfl, rfl, Or.inl rfl⟩) (k3_st ⟨rfl, rfl, Or.inr rfl⟩)⟩
  simp only [forall_eq, true_implies, false_implies, not_true_eq_false, not_false_eq_true, and_true, true_and, and_self, isB0, isB1, bI_t0, bI_f0, i10_, i20_, i01_, i02_, i12_, i21_, show ∀ y, (st M 100 0 21 y).1 100 0 19 = iN (ps b n i) from fun y => by rw [st_ne3 (by omega)]; exact h.2.2.1]
theorem RS.k {M M2 : Mem} {b : Nat → Nat} {n k i : Nat} {P : Nat → Nat → Nat → Prop} (h : RS M b n k i) (kk : K3 P M M2) (h1 : ∀ j, (j = 12 ∨ j = 16 ∨ j = 17 ∨ j = 18 ∨ j = 19 ∨ j = 20) → ¬ P 100 0 j) (h2 : ∀ j, ¬ P 108 0 j) : RS M2 b n k i :=
  ⟨h.1.k kk (h1 16 (by omega)) h2, by rw [kk 100 0 12 (h1 12 (by omega))]; exact h.2.1, by rw [kk 100 0 19 (h1 19 (by omega))]; exact h.2.2.1, by rw [kk 100 0 17 (h1 17 (by omega))]; exact h.2.2.2.1, by rw [kk 100 0 18 (h1 18 (by omega))]; exact h.2.2.2.2.1, fun z => by rw [kk 100 0 20 (h1 20 (by omega))]; exact h.2.2.2.2.2 z⟩
theorem SgF.k {M M2 : Mem} {cs : Cds} {P : Nat → Nat → Nat → Prop} (h : SgF M cs) (kk : K3 P M M2) (h1 : ¬ P 100 0 14) (h2 : ∀ j, ¬ P 106 0 j) : SgF M2 cs := ⟨by rw [kk 100 0 14 h1]; exact h.1, fun q s v hq => by rw [kk 106 0 _ (h2 _), kk 106 0 _ (h2 _)]; exact h.2 q s v hq⟩
theorem RL.next {X : Cx} {d : Nat} {M : Mem} {b : Nat → Nat} {n m i : Nat} {cs : Cds} (hX : StrOk X) (hT : Tok b n m) (h : RL M b n m i cs) (hi : i < m) : ∃ M', CC X (d + 8) 175 [vR 100 0] M none M' ∧ RL M' b n m (i + 1) cs ∧ K3 NxP M M' := by
  obtain ⟨M', p1, p2, p3⟩ := c175 (X := X) (d := d) hX (by decide) h.1
  exact ⟨M', p1, ⟨p2, by omega, h.2.2.1.k p3 (by simp [NxP]) (fun _ => by simp [NxP]), h.2.2.2⟩, p3⟩
theorem c178 {X : Cx} {d : Nat} {M : Mem} {b : Nat → Nat} {n m i s v : Nat} {cs : Cds} {x y : Int32} (h : RL M b n m i cs) (hl : cs.length < 400) (hx : x = iN s) (hy : (s = 0 ∨ s = 26) → y = iN v) : ∃ M', CC X (d + 1) 178 [vR 100 0, vI x, vI y] M none M' ∧ RL M' b n m i (cs ++ [(s, v)]) ∧ K3 (fun c a j => a = 0 ∧ ((c = 100 ∧ j = 14) ∨ c = 106)) M M' := by
  obtain ⟨h1, h2, ⟨h3, h4⟩, h5⟩ := h
  have e1 : 2 * iN cs.length = iN (2 * cs.length) := by simp only [iN_lit, iN_mul]
  have e2 : iN (2 * cs.length) + 1 = iN (2 * cs.length + 1) := by simp only [iN_lit, iN_add]
  have k : K3 (fun c a j => a = 0 ∧ ((c = 100 ∧ j = 14) ∨ c = 106)) M (st (st (st M 106 0 (2 * cs.length) x) 106 0 (2 * cs.length + 1) y) 100 0 14 (iN (cs.length + 1))) := k3_trans (k3_trans (k3_st ⟨rfl, Or.inr rfl⟩) (k3_st ⟨rfl, Or.inr rfl⟩)) (k3_st ⟨rfl, Or.inl ⟨rfl, rfl⟩⟩)
  refine ⟨_, e178 (w178_0 ?_), ⟨h1.k k (fun j hj => by omega) (fun j => by omega), h2, ⟨?_, fun q s' v' hq => ?_⟩, ?_⟩, k⟩
  · simp only [forall_eq, true_implies, false_implies, not_true_eq_false, not_false_eq_true, and_true, true_and, and_self, isB0, isB1, bI_t0, bI_f0, i10_, i20_, i01_, i02_, i12_, i21_, h3, e1, e2, show inb (iN (2 * cs.length)) 820 from inb_of (by omega) (by decide), ix_of (show 2 * cs.length < 2147483648 by omega), show ∀ z, (st M 106 0 (2 * cs.length) z).1 100 0 14 = iN cs.length from fun z => by rw [st_ne3 (fun z => absurd z.1 (by decide))]; exact h3, show inb (iN (2 * cs.length + 1)) 820 from inb_of (by omega) (by decide), ix_of (show 2 * cs.length + 1 < 2147483648 by omega), show ∀ z u, (st (st M 106 0 (2 * cs.length) z) 106 0 (2 * cs.length + 1) u).1 100 0 14 = iN cs.length from fun z u => by rw [st_ne3 (fun z => absurd z.1 (by decide)), st_ne3 (fun z => absurd z.1 (by decide))]; exact h3, iN_step]
  · rw [st_at, List.length_append]
    rfl
  · by_cases hql : q < cs.length
    · rw [List.getElem?_append_left hql] at hq
      rw [st_ne3 (fun z => absurd z.1 (by decide)), st_ne3 (by omega), st_ne3 (by omega), st_ne3 (fun z => absurd z.1 (by decide)), st_ne3 (by omega), st_ne3 (by omega)]
      exact h4 q s' v' hq
    · rw [List.getElem?_append_right (by omega)] at hq
      have hq0 : q - cs.length = 0 := by
        have := (List.getElem?_eq_some_iff.mp hq).1
        simp at this
        omega
      rw [hq0] at hq
      have hsv : (s, v) = (s', v') := by simpa using hq
      have hs : s = s' := congrArg Prod.fst hsv
      have hv : v = v' := congrArg Prod.snd hsv
      subst hs
      subst hv
      rw [show q = cs.length by omega, st_ne3 (fun z => absurd z.1 (by decide)), st_ne3 (by omega), st_at, st_ne3 (fun z => absurd z.1 (by decide)), st_at]
      exact ⟨hx, hy⟩
  · rw [List.length_append]
    show cs.length + 1 ≤ 400
    omega
/-! the class's codes -/
def CW (M : Mem) (b : Nat → Nat) (n m i : Nat) (cs : Cds) : Prop := CA M b n m i ∧ M.1 40 1 1 = iN (tr cs).length ∧ SgC (M.1 46 1) 0 (tr cs)
abbrev SmP : Nat → Nat → Nat → Prop := fun c a j => (c = 3 ∧ a = 0 ∧ (j = 9 ∨ j = 10 ∨ j = 13 ∨ j = 14)) ∨ (a = 1 ∧ ((c = 40 ∧ j = 1) ∨ c = 46))
theorem Sp_s : ∀ c a j, SpP c a j → SmP c a j := fun c a j h => by simp only [SpP] at h; simp only [SmP]; omega
theorem Bl_s : ∀ c a j, BlP c a j → SmP c a j := fun c a j h => by simp only [BlP] at h; simp only [SmP]; omega
theorem Sm_r : ∀ c a j, SmP c a j → RdP c a j := fun c a j h => by simp only [SmP] at h; simp only [RdP]; omega
theorem CL.w {M : Mem} {b : Nat → Nat} {n m i : Nat} {cs : Cds} (h : CL M b n m i cs) : CW M b n m i cs := ⟨h.1, h.2.1, h.2.2.1⟩
theorem CW.l {M : Mem} {b : Nat → Nat} {n m i : Nat} {cs : Cds} (h : CW M b n m i cs) (hl : (tr cs).length ≤ i) : CL M b n m i cs := ⟨h.1, h.2.1, h.2.2, hl⟩
theorem CW.emit {X : Cx} {d : Nat} {M : Mem} {b : Nat → Nat} {n m i s v : Nat} {cs : Cds} {x : Int32} (h : CW M b n m i cs) (hs : s ≠ 26) (hx : x = tok s v) (hl : (tr cs).length < 400) : ∃ M', CC X (d + 1) 4 [vR 40 1, vI x] M none M' ∧ CW M' b n m i (cs ++ [(s, v)]) ∧ K3 (fun c a j => a = 1 ∧ ((c = 40 ∧ j = 1) ∨ c = 46)) M M' := by
  obtain ⟨⟨g0, g1, g2, g3, g4, g5, g6, g14⟩, h1, h2⟩ := h
  have k : K3 (fun c a j => a = 1 ∧ ((c = 40 ∧ j = 1) ∨ c = 46)) M (st (st M 46 1 (tr cs).length x) 40 1 1 (iN ((tr cs).length + 1))) := k3_trans (k3_st ⟨rfl, Or.inr rfl⟩) (k3_st ⟨rfl, Or.inl ⟨rfl, rfl⟩⟩)
  refine ⟨_, c4 hl h1, ⟨⟨g0, by rw [k 3 0 13 (by omega)]; exact g1, by rw [k 3 0 9 (by omega)]; exact g2, by rw [k 3 0 10 (by omega)]; exact g3, g4.k k (by omega) (fun _ => by omega) (fun _ => by omega), ⟨(tr cs).length + 1, by omega, st_at⟩, by rw [k 3 0 11 (by omega)]; exact g6, by rw [k 3 0 14 (by omega)]; exact g14⟩, ?_, ?_⟩, k⟩
  · rw [st_at, tr_app, tr_s hs, List.length_append]
    rfl
  · rw [st_ne (fun z => absurd z.1 (by decide)), st_eq, tr_app, tr_s hs, SgC_ap, Nat.zero_add]
    exact ⟨SgC_upd (by omega) h2, by rw [upd_at]; exact hx, trivial⟩
/-- a divisor: two tokens -/
theorem CW.emit2 {X : Cx} {d : Nat} {M : Mem} {b : Nat → Nat} {n m i v : Nat} {cs : Cds} (h : CW M b n m i cs) (hl : (tr cs).length + 1 < 400) : ∃ M1 M', CC X (d + 1) 4 [vR 40 1, vI (iN v)] M none M1 ∧ CC X (d + 1) 4 [vR 40 1, vI 20047] M1 none M' ∧ CW M' b n m i (cs ++ [(26, v)]) ∧ K3 (fun c a j => a = 1 ∧ ((c = 40 ∧ j = 1) ∨ c = 46)) M M' := by
  obtain ⟨⟨g0, g1, g2, g3, g4, g5, g6, g14⟩, h1, h2⟩ := h
  have k1 : K3 (fun c a j => a = 1 ∧ ((c = 40 ∧ j = 1) ∨ c = 46)) M (st (st M 46 1 (tr cs).length (iN v)) 40 1 1 (iN ((tr cs).length + 1))) := k3_trans (k3_st ⟨rfl, Or.inr rfl⟩) (k3_st ⟨rfl, Or.inl ⟨rfl, rfl⟩⟩)
  have k : K3 (fun c a j => a = 1 ∧ ((c = 40 ∧ j = 1) ∨ c = 46)) M (st (st (st (st M 46 1 (tr cs).length (iN v)) 40 1 1 (iN ((tr cs).length + 1))) 46 1 ((tr cs).length + 1) 20047) 40 1 1 (iN ((tr cs).length + 1 + 1))) := k3_trans k1 (k3_trans (k3_st ⟨rfl, Or.inr rfl⟩) (k3_st ⟨rfl, Or.inl ⟨rfl, rfl⟩⟩))
  refine ⟨_, _, c4 (by omega) h1, c4 hl st_at, ⟨⟨g0, by rw [k 3 0 13 (by omega)]; exact g1, by rw [k 3 0 9 (by omega)]; exact g2, by rw [k 3 0 10 (by omega)]; exact g3, g4.k k (by omega) (fun _ => by omega) (fun _ => by omega), ⟨(tr cs).length + 2, by omega, st_at⟩, by rw [k 3 0 11 (by omega)]; exact g6, by rw [k 3 0 14 (by omega)]; exact g14⟩, ?_, ?_⟩, k⟩
  · rw [st_at, tr_app, tr_26, List.length_append]
    rfl
  · rw [st_ne (fun z => absurd z.1 (by decide)), st_eq, st_ne (fun z => absurd z.1 (by decide)), st_eq, tr_app, tr_26, SgC_ap, Nat.zero_add]
    exact ⟨SgC_upd (by omega) (SgC_upd (by omega) h2), by rw [upd_ne (by omega), upd_at], by rw [upd_at], trivial⟩
theorem CW.k {M M2 : Mem} {b : Nat → Nat} {n m i j : Nat} {cs : Cds} (h : CW M b n m i cs) (h2 : CA M2 b n m j) (k : K3 SpP M M2) : CW M2 b n m j cs := ⟨h2, by rw [k 40 1 1 (by simp [SpP])]; exact h.2.1, by rw [k3_col k (fun _ => by simp [SpP])]; exact h.2.2⟩
theorem c4_s {X : Cx} {d : Nat} {M : Mem} {b : Nat → Nat} {n m e p : Nat} {x : Int32} (h : DD M b n m e p) : ∃ M', CC X (d + 1) 4 [vR 40 1, vI x] M none M' ∧ DD M' b n m e p ∧ K3 SmP M M' := by
  obtain ⟨g1, g2, g3, g4, g5, h4, ⟨ln, h5, h5b⟩, h6⟩ := h
  by_cases hl : ln < 400
  · exact ⟨_, c4 hl h5b, ⟨g1, g2, by rw [st_ne3 (fun z => absurd z.1 (by decide)), st_ne3 (fun z => absurd z.1 (by decide))]; exact g3, by rw [st_ne3 (fun z => absurd z.1 (by decide)), st_ne3 (fun z => absurd z.1 (by decide))]; exact g4, by rw [st_ne3 (fun z => absurd z.1 (by decide)), st_ne3 (fun z => absurd z.1 (by decide))]; exact g5, h4.k (P := RdP) (k3_trans (k3_st (by simp [RdP])) (k3_st (by simp [RdP]))) (by simp [RdP]) (fun _ => by simp [RdP]) (fun _ => by simp [RdP]), ⟨ln + 1, by omega, st_at⟩, by rw [st_ne3 (fun z => absurd z.1 (by decide)), st_ne3 (fun z => absurd z.1 (by decide))]; exact h6⟩, k3_trans (k3_st (by simp [SmP])) (k3_st (by simp [SmP]))⟩
  · refine ⟨M, e4 (w4_0 ?_), ⟨g1, g2, g3, g4, g5, h4, ⟨ln, h5, h5b⟩, h6⟩, k3_refl⟩
    simp only [forall_eq, true_implies, false_implies, not_true_eq_false, not_false_eq_true, and_true, true_and, and_self, isB0, isB1, bI_t0, bI_f0, i10_, i20_, i01_, i02_, i12_, i21_, h5b, show (400 ≤ iN ln) = True from yle_ (a := 400) (by decide) (by omega) (by omega)]
theorem c44_d {X : Cx} {d : Nat} {M : Mem} {b : Nat → Nat} {n m e p : Nat} (h : DD M b n m e p) : CC X (d + 2) 44 [vR 3 0] M none M := by
  refine e44 (w44_0 ?_)
  simp only [forall_eq, true_implies, false_implies, not_true_eq_false, not_false_eq_true, and_true, true_and, and_self, isB0, isB1, bI_t0, bI_f0, i10_, i20_, i01_, i02_, i12_, i21_, h.ne]
  exact ⟨_, c37_d h, rfl⟩
theorem c43_d {X : Cx} {d : Nat} {M : Mem} {b : Nat → Nat} {n m e p : Nat} (h : DD M b n m e p) : CC X (d + 3) 43 [vR 3 0] M none M := by
  refine e43 (w43_0 ⟨_, c44_d h, w43_6 ⟨fun _ => ⟨rfl, rfl⟩, fun _ => ⟨_, _, c34_d h, ?_⟩⟩⟩)
  simp only [forall_eq, true_implies, false_implies, not_true_eq_false, not_false_eq_true, and_true, true_and, and_self, isB0, isB1, bI_t0, bI_f0, i10_, i20_, i01_, i02_, i12_, i21_]
  exact ⟨_, _, c34_d h, fun _ => rfl, fun z => absurd rfl z⟩
theorem c42_d {X : Cx} {d : Nat} {M : Mem} {b : Nat → Nat} {n m e p : Nat} (h : DD M b n m e p) : CC X (d + 4) 42 [vR 3 0] M none M := by
  refine e42 (w42_0 (w42_4 ⟨fun _ => ⟨rfl, rfl⟩, fun _ => ⟨_, c43_d h, ?_⟩⟩))
  simp only [forall_eq, true_implies, false_implies, not_true_eq_false, not_false_eq_true, and_true, true_and, and_self, isB0, isB1, bI_t0, bI_f0, i10_, i20_, i01_, i02_, i12_, i21_]
  refine ⟨_, _, c34_d h, ?_⟩
  simp only [forall_eq, true_implies, false_implies, not_true_eq_false, not_false_eq_true, and_true, true_and, and_self, isB0, isB1, bI_t0, bI_f0, i10_, i20_, i01_, i02_, i12_, i21_]
  exact ⟨_, _, c34_d h, fun z => absurd rfl z, fun _ => rfl⟩
/-! what both read -/
def ClR (X : Cx) (b : Nat → Nat) (n m D meth i : Nat) (r : Rs) : Prop := ∀ (M : Mem) (cs : Cds), CL M b n m i cs → ∃ M', CC X D meth [vR 3 0] M none M' ∧ K3 SmP M M' ∧ rsC (fun j nw => CL M' b n m j (cs ++ nw)) (fun e p => DD M' b n m e p) r
def RfR (X : Cx) (b : Nat → Nat) (n m D meth i : Nat) (r : Rs) : Prop := ∀ (M : Mem) (cs : Cds), RL M b n m i cs → cs.length ≤ i → ∃ M', CC X D meth [vR 100 0] M (some (vI (okB r))) M' ∧ K3 RfP M M' ∧ rsC (fun j nw => RL M' b n m j (cs ++ nw)) (fun e p => Bad M' b n e p) r
/-- how long, and of what kind -/
def GdR (m i L : Nat) (r : Rs) : Prop := rsC (fun j nw => i < j ∧ j ≤ m ∧ (tr nw).length ≤ j - i ∧ nw.length ≤ j - i ∧ ∀ t : List Bool, t.length + L ≤ 31 → Ty nw t (false :: t)) (fun e _ => 1 ≤ e ∧ e ≤ 3) r
theorem Ty_app' : ∀ {l r : Cds} {t u v : List Bool}, Ty l t u → Ty r u v → Ty (l ++ r) t v
  | [], r, t, u, v, h1, h2 => by
    have h1 : t = u := h1
    rw [h1]
    exact h2
  | (s, x) :: l, r, t, u, v, h1, h2 => by
    obtain ⟨t1, a1, a2⟩ := h1
    exact ⟨t1, a1, Ty_app' a2 h2⟩
theorem unit_sim {X : Cx} {b : Nat → Nat} {n m : Nat} (hX : StrOk X) (hT : Tok b n m) (i : Nat) (hi : i ≤ m) : ∃ r : Rs, (∀ d, ClR X b n m (d + 2) 44 i r) ∧ (∀ d, RfR X b n m (d + 9) 182 i r) ∧ GdR m i 0 r := by
  have hb := tk_b hT i
  have hm := hT.1
  have hn := hT.2.1
  by_cases h : tk b n i < 10010
  · have him : i < m := tk_in hT (by omega)
    obtain ⟨s, v, hsv, hs26, htok, hT1⟩ : ∃ s v : Nat, (s, v) = (if tk b n i < 10000 then (0, tk b n i) else (tk b n i - 9999, 0)) ∧ s ≠ 26 ∧ iN (tk b n i) = tok s v ∧ ∀ t : List Bool, t.length < 32 → T1 s v t (false :: t) := by
      by_cases h0 : tk b n i < 10000
      · refine ⟨0, tk b n i, by rw [if_pos h0], by decide, rfl, fun t ht => Or.inl ⟨rfl, by omega, ht, rfl⟩⟩
      · refine ⟨tk b n i - 9999, 0, by rw [if_neg h0], by omega, ?_, fun t ht => Or.inr (Or.inl ⟨by omega, by omega, rfl, ht, rfl⟩)⟩
        unfold tok
        rw [if_neg (by omega), if_pos (by omega)]
        exact congrArg iN (by omega)
    refine ⟨.inl (i + 1, [(s, v)]), fun d M cs hC => ?_, fun d M cs hR hcl => ?_, ?_⟩
    · obtain ⟨M1, p1, p2, p3⟩ := hC.w.emit (X := X) (d := d) (s := s) (v := v) hs26 htok (by have := hC.2.2.2; omega)
      obtain ⟨M2, q1, q2, q3⟩ := c36 (X := X) (d := d) hT p2.1 him
      have h13 := hC.1.2.1
      have h10 := hC.1.2.2.2.1
      refine ⟨M2, e44 (w44_0 ?_), k3_trans (k3_sub p3 (fun c a j z => Or.inr z)) (k3_sub q3 Sp_s), (p2.k q2 q3).l ?_⟩
      · simp only [forall_eq, true_implies, false_implies, not_true_eq_false, not_false_eq_true, and_true, true_and, and_self, isB0, isB1, bI_t0, bI_f0, i10_, i20_, i01_, i02_, i12_, i21_, h13, h10, show (10010 ≤ iN (tk b n i)) = False from nle_ (a := 10010) (by decide) (by omega) h]
        exact ⟨_, p1, _, q1, rfl⟩
      · have := hC.2.2.2
        rw [tr_app, tr_s hs26, List.length_append]
        show (tr cs).length + 1 ≤ i + 1
        omega
    · obtain ⟨-, -, -, -, r18, r20⟩ := hR.1
      have cin := c151 (X := X) (d := d + 7) (M := M) (v := M.1 100 0 18) (lo := 41) (hi := 50)
      rw [r18] at cin
      have hrb := rt_b (k := 0) hb
      have hin : inR (iN (rt 0 (tk b n i))) 41 50 = decide (10000 ≤ tk b n i ∧ tk b n i < 10010) := by
        rw [show inR (iN (rt 0 (tk b n i))) 41 50 = (decide (41 ≤ rt 0 (tk b n i)) && decide (rt 0 (tk b n i) ≤ 50)) from inR_d (lo := 41) (hi := 50) (by omega) (by decide) (by decide), ← Bool.decide_and, decide_eq_decide.mpr (Iff.of_eq rt_nm)]
      rw [hin] at cin
      by_cases h0 : tk b n i < 10000
      · rw [if_pos h0] at hsv
        have hs : s = 0 := congrArg Prod.fst hsv
        have hv : v = tk b n i := congrArg Prod.snd hsv
        subst hs
        obtain ⟨M1, p1, p2, p3⟩ := c178 (X := X) (d := d + 7) (s := 0) (v := v) (x := 0) (y := M.1 100 0 20) hR (by omega) rfl (fun _ => by rw [r20 h0, hv])
        obtain ⟨M2, q1, q2, q3⟩ := p2.next (X := X) (d := d) hX hT him
        rw [decide_eq_false (by omega)] at cin
        refine ⟨M2, e182 (w182_0 ?_), k3_trans (k3_sub p3 (fun c a j z => by simp only [RfP]; omega)) (k3_sub q3 Nx_r), q2⟩
        rw [r18]
        refine ⟨_, _, cin, ?_⟩
        simp only [forall_eq, true_implies, false_implies, not_true_eq_false, not_false_eq_true, and_true, true_and, and_self, isB0, isB1, bI_t0, bI_f0, i10_, i20_, i01_, i02_, i12_, i21_, r18, show (iN (rt 0 (tk b n i)) = 2) = True from eq_true (by rw [show rt 0 (tk b n i) = 2 from (Iff.of_eq rt_num).mpr h0]; rfl)]
        exact ⟨_, p1, _, q1, rfl, rfl⟩
      · rw [if_neg h0] at hsv
        have hs : s = tk b n i - 9999 := congrArg Prod.fst hsv
        have hrv := rt_nv (v := tk b n i) (by omega)
        have ex : iN (rt 0 (tk b n i)) - 40 = iN s := by
          rw [hrv, iN_lit 40, iN_sub (by omega), hs]
          exact congrArg iN (by omega)
        obtain ⟨M1, p1, p2, p3⟩ := c178 (X := X) (d := d + 7) (s := s) (v := v) (x := iN s) (y := M.1 100 0 20) hR (by omega) rfl (fun z => by omega)
        obtain ⟨M2, q1, q2, q3⟩ := p2.next (X := X) (d := d) hX hT him
        rw [decide_eq_true (by omega)] at cin
        refine ⟨M2, e182 (w182_0 ?_), k3_trans (k3_sub p3 (fun c a j z => by simp only [RfP]; omega)) (k3_sub q3 Nx_r), q2⟩
        rw [r18]
        refine ⟨_, _, cin, ?_⟩
        simp only [forall_eq, true_implies, false_implies, not_true_eq_false, not_false_eq_true, and_true, true_and, and_self, isB0, isB1, bI_t0, bI_f0, i10_, i20_, i01_, i02_, i12_, i21_, r18, show (iN (rt 0 (tk b n i)) = 2) = False from neq_ (b := 2) (by omega) (by decide) (fun z => h0 ((Iff.of_eq rt_num).mp z)), ex]
        exact ⟨_, p1, _, q1, rfl, rfl⟩
    · show i < i + 1 ∧ i + 1 ≤ m ∧ (tr [(s, v)]).length ≤ i + 1 - i ∧ [(s, v)].length ≤ i + 1 - i ∧ ∀ t : List Bool, t.length + 0 ≤ 31 → Ty [(s, v)] t (false :: t)
      rw [tr_s hs26]
      exact ⟨by omega, by omega, by simp, by simp, fun t ht => ⟨_, hT1 t (by omega), rfl⟩⟩
  · refine ⟨.inr (1, i), fun d M cs hC => ?_, fun d M cs hR hcl => ?_, by show 1 ≤ 1 ∧ 1 ≤ 3; omega⟩
    · obtain ⟨M1, p1, p2, p3⟩ := c37 (X := X) (d := d) (e := 1) hT hC.1 (by decide) (by decide)
      refine ⟨M1, e44 (w44_0 ?_), k3_sub p3 Bl_s, p2⟩
      simp only [forall_eq, true_implies, false_implies, not_true_eq_false, not_false_eq_true, and_true, true_and, and_self, isB0, isB1, bI_t0, bI_f0, i10_, i20_, i01_, i02_, i12_, i21_, hC.1.2.1, hC.1.2.2.2.1, show (10010 ≤ iN (tk b n i)) = True from yle_ (a := 10010) (by decide) (by omega) (by omega)]
      exact ⟨_, p1, rfl⟩
    · obtain ⟨-, -, -, -, r18, r20⟩ := hR.1
      have cin := c151 (X := X) (d := d + 7) (M := M) (v := M.1 100 0 18) (lo := 41) (hi := 50)
      rw [r18] at cin
      have hrb := rt_b (k := 0) hb
      have hin : inR (iN (rt 0 (tk b n i))) 41 50 = decide (10000 ≤ tk b n i ∧ tk b n i < 10010) := by
        rw [show inR (iN (rt 0 (tk b n i))) 41 50 = (decide (41 ≤ rt 0 (tk b n i)) && decide (rt 0 (tk b n i) ≤ 50)) from inR_d (lo := 41) (hi := 50) (by omega) (by decide) (by decide), ← Bool.decide_and, decide_eq_decide.mpr (Iff.of_eq rt_nm)]
      rw [hin, decide_eq_false (by omega)] at cin
      obtain ⟨M1, p1, p2, p3⟩ := c176 (X := X) (d := d + 7) (e := 1) hR.1
      refine ⟨M1, e182 (w182_0 ?_), k3_sub p3 (fun c a j z => by simp only [RfP]; omega), p2⟩
      rw [r18]
      refine ⟨_, _, cin, ?_⟩
      simp only [forall_eq, true_implies, false_implies, not_true_eq_false, not_false_eq_true, and_true, true_and, and_self, isB0, isB1, bI_t0, bI_f0, i10_, i20_, i01_, i02_, i12_, i21_, r18, show (iN (rt 0 (tk b n i)) = 2) = False from neq_ (b := 2) (by omega) (by decide) (fun z => h (by have := (Iff.of_eq rt_num).mp z; omega))]
      exact ⟨_, _, p1, isB0, rfl, rfl⟩
