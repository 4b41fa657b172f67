/-! products and sums -/
theorem rs_pre {P : Nat → Cds → Prop} {B : Nat → Nat → Prop} {cs pre : Cds} : ∀ {r : Rs}, rsC (fun j nw => P j (cs ++ pre ++ nw)) B r → rsC (fun j nw => P j (cs ++ nw)) B (rP pre r)
  | .inl (j, nw), h => by
    show P j (cs ++ (pre ++ nw))
    rw [← List.append_assoc]
    exact h
  | .inr _, h => h
theorem okB_pre {pre : Cds} : ∀ {r : Rs}, okB (rP pre r) = okB r
  | .inl _ => rfl
  | .inr _ => rfl
theorem bI0 {p : Prop} [Decidable p] (h : ¬ p) : bI (decide p) = 0 := by
  rw [decide_eq_false h]
  rfl
theorem bI1 {p : Prop} [Decidable p] (h : p) : bI (decide p) = 1 := by
  rw [decide_eq_true h]
  rfl
theorem n10 : ¬ (1 : Int32) = 0 := by decide
theorem r18_ne {M : Mem} {b : Nat → Nat} {n m k i c : Nat} (hT : Tok b n m) (h : M.1 100 0 18 = iN (rt k (tk b n i))) (hs : sgn c = true) (hc : c < 256) (h40 : 40 ≤ c) (hn : ¬ tk b n i = 20000 + c) : ¬ M.1 100 0 18 = iN (100 + c) := by
  intro z
  rw [h] at z
  have h2 := rt_b (k := k) (tk_b hT i)
  have h3 := (iN_inj (by omega) (by omega)).mp z
  exact hn ((Iff.of_eq (rt_sg hs hc h40)).mp h3)
theorem r18_eq {M : Mem} {b : Nat → Nat} {n k i c : Nat} (h : M.1 100 0 18 = iN (rt k (tk b n i))) (hs : sgn c = true) (hc : c < 256) (h40 : 40 ≤ c) (hn : tk b n i = 20000 + c) : M.1 100 0 18 = iN (100 + c) := by
  rw [h, (Iff.of_eq (rt_sg hs hc h40)).mpr hn]
/-- the tail of a product -/
def GdT (m j L : Nat) (r : Rs) : Prop := rsC (fun j' nw => j ≤ j' ∧ j' ≤ m ∧ (tr nw).length ≤ j' - j ∧ nw.length ≤ j' - j ∧ ∀ t : List Bool, t.length + L ≤ 31 → Ty nw (false :: t) (false :: t)) (fun e _ => 1 ≤ e ∧ e ≤ 3) r
theorem c43_6d {X : Cx} {d : Nat} {M : Mem} {b : Nat → Nat} {n m e p : Nat} {x : Int32} {Q : Option Vl → Mem → Prop} (h : DD M b n m e p) (q : Q none M) : V X (d + 3) 43 6 [some (vR 3 0), some (vI x)] [] M Q := by
  refine w43_6 ⟨fun _ => q, fun _ => ⟨_, _, c34_d h, ?_⟩⟩
  simp only [forall_eq, true_implies, false_implies, not_true_eq_false, not_false_eq_true, and_true, true_and, and_self, isB0, isB1, bI_t0, bI_f0, i10_, i20_, i01_, i02_, i12_, i21_]
  exact ⟨_, _, c34_d h, fun _ => q, fun z => absurd rfl z⟩
def PtC (X : Cx) (b : Nat → Nat) (n m j : Nat) (r : Rs) : Prop := ∀ (d q : Nat) (M : Mem) (cs : Cds), q + 1 ≤ j → CL M b n m j cs → ∃ M', K3 SmP M M' ∧ rsC (fun j' nw => CL M' b n m j' (cs ++ nw)) (fun e p => DD M' b n m e p) r ∧ ∀ Q : Option Vl → Mem → Prop, Q none M' → V X (d + 3) 43 6 [some (vR 3 0), some (vI (iN q))] [] M Q
def PtR (X : Cx) (b : Nat → Nat) (n m j : Nat) (r : Rs) : Prop := ∀ (d : Nat) (M : Mem) (cs : Cds), RL M b n m j cs → cs.length ≤ j → ∃ M', K3 RfP M M' ∧ rsC (fun j' nw => RL M' b n m j' (cs ++ nw)) (fun e p => Bad M' b n e p) r ∧ ∀ Q : Option Vl → Mem → Prop, Q (some (vI (okB r))) M' → V X (d + 10) 181 9 [some (vR 100 0), none, none] [] M Q
theorem ptail {X : Cx} {b : Nat → Nat} {n m : Nat} (hX : StrOk X) (hT : Tok b n m) : ∀ (k j : Nat), m - j ≤ k → j ≤ m → ∃ r : Rs, PtC X b n m j r ∧ PtR X b n m j r ∧ GdT m j 1 r := by
  have hm := hT.1
  have hn := hT.2.1
  intro k
  induction k with
  | zero =>
    intro j hj hjm
    have htk := tk_ge hT (show m ≤ j by omega)
    refine ⟨.inl (j, []), fun d q M cs hq hC => ⟨M, k3_refl, by show CL M b n m j (cs ++ []); rw [List.append_nil]; exact hC, fun Q hQ => w43_6 ⟨fun z => absurd z (by rw [show (400 ≤ iN q) = False from nle_ (a := 400) (by decide) (by omega) (by omega)]; exact id), fun _ => ⟨_, _, c34 (t := 20042) hT hC.1 (by decide), fun _ => ⟨_, _, c34 (t := 20047) hT hC.1 (by decide), fun _ => hQ, fun z => absurd (bI0 (by omega)) z⟩, fun z => absurd (bI0 (by omega)) z⟩⟩⟩, fun d M cs hR hl => ⟨M, k3_refl, by show RL M b n m j (cs ++ []); rw [List.append_nil]; exact hR, fun Q hQ => w181_9 ?_⟩, ⟨by omega, by omega, by simp [tr], by simp, fun t _ => rfl⟩⟩
    have r18 := hR.1.2.2.2.2.1
    have a1 : ¬ M.1 100 0 18 = 142 := r18_ne (c := 42) hT r18 (by decide) (by decide) (by decide) (by omega)
    have a2 : ¬ M.1 100 0 18 = 147 := r18_ne (c := 47) hT r18 (by decide) (by decide) (by decide) (by omega)
    exact ⟨fun z => absurd z a1, fun _ => ⟨fun _ => ⟨isB1, hQ⟩, fun z => absurd z a2⟩⟩
  | succ k ih =>
    intro j hj hjm
    by_cases hmul : tk b n j = 20042
    · have hjlt : j < m := tk_in hT (by omega)
      obtain ⟨r1, u1, u2, u3⟩ := unit_sim hX hT (j + 1) (by omega)
      have ne47 : ¬ tk b n j = 20047 := by omega
      match r1, u1, u2, u3 with
      | .inr (e, p), u1, u2, u3 =>
        refine ⟨.inr (e, p), fun d q M cs hq hC => ?_, fun d M cs hR hl => ?_, u3⟩
        · obtain ⟨M7, p1, p2, p3⟩ := c36 (X := X) (d := d + 1) hT hC.1 hjlt
          obtain ⟨M8, q1, q2, q3⟩ := u1 d M7 cs ((hC.w.k p2 p3).l (by have := hC.2.2.2; omega))
          obtain ⟨M9, s1, s2, s3⟩ := c4_s (X := X) (d := d + 1) (x := 20042) q3
          refine ⟨M9, k3_trans (k3_sub p3 Sp_s) (k3_trans q2 s3), s2, fun Q hQ => w43_6 ⟨fun z => absurd z (by rw [show (400 ≤ iN q) = False from nle_ (a := 400) (by decide) (by omega) (by omega)]; exact id), fun _ => ⟨_, _, c34 (t := 20042) hT hC.1 (by decide), fun z => absurd z (by rw [bI1 hmul]; exact n10), fun _ => ⟨_, p1, _, q1, _, s1, ?_⟩⟩⟩⟩
          exact c43_6d s2 hQ
        · have r18 := hR.1.2.2.2.2.1
          have a1 : M.1 100 0 18 = 142 := r18_eq (c := 42) r18 (by decide) (by decide) (by decide) hmul
          have a2 : ¬ M.1 100 0 18 = 147 := r18_ne (c := 47) hT r18 (by decide) (by decide) (by decide) ne47
          obtain ⟨M1, p1, p2, p3⟩ := hR.next (X := X) (d := d + 1) hX hT hjlt
          obtain ⟨M2, q1, q2, q3⟩ := u2 d M1 cs p2 (by omega)
          refine ⟨M2, k3_trans (k3_sub p3 Nx_r) q2, q3, fun Q hQ => w181_9 ⟨fun _ => ⟨fun _ => ⟨_, p1, fun _ => ⟨_, _, q1, fun z => absurd rfl z, fun _ => ⟨isB0, hQ⟩⟩, fun z => absurd rfl z⟩, fun z => absurd z a2⟩, fun z => absurd a1 z⟩⟩
      | .inl (j1, nw), u1, u2, u3 =>
        obtain ⟨g1, g2, g3, g4, g5⟩ := u3
        obtain ⟨r2, v1, v2, v3⟩ := ih j1 (by omega) g2
        refine ⟨rP (nw ++ [(25, 0)]) r2, fun d q M cs hq hC => ?_, fun d M cs hR hl => ?_, ?_⟩
        · obtain ⟨M7, p1, p2, p3⟩ := c36 (X := X) (d := d + 1) hT hC.1 hjlt
          obtain ⟨M8, q1, q2, q3⟩ := u1 d M7 cs ((hC.w.k p2 p3).l (by have := hC.2.2.2; omega))
          have hlc := hC.2.2.2
          have q3 : CL M8 b n m j1 (cs ++ nw) := q3
          obtain ⟨M9, s1, s2, s3⟩ := q3.emit (X := X) (d := d + 1) (s := 25) (v := 0) (x := 20042) hT (by decide) rfl (by rw [tr_app, List.length_append]; omega)
          obtain ⟨M', f1, f2, f3⟩ := v1 d (q + 1) M9 (cs ++ nw ++ [(25, 0)]) (by omega) s2
          refine ⟨M', k3_trans (k3_sub p3 Sp_s) (k3_trans q2 (k3_trans (k3_sub s3 (fun c a j z => Or.inr z)) f1)), rs_pre (by rw [← List.append_assoc]; exact f2), fun Q hQ => w43_6 ⟨fun z => absurd z (by rw [show (400 ≤ iN q) = False from nle_ (a := 400) (by decide) (by omega) (by omega)]; exact id), fun _ => ⟨_, _, c34 (t := 20042) hT hC.1 (by decide), fun z => absurd z (by rw [bI1 hmul]; exact n10), fun _ => ⟨_, p1, _, q1, _, s1, ?_⟩⟩⟩⟩
          rw [iN_step]
          exact f3 Q hQ
        · have r18 := hR.1.2.2.2.2.1
          have a1 : M.1 100 0 18 = 142 := r18_eq (c := 42) r18 (by decide) (by decide) (by decide) hmul
          have a2 : ¬ M.1 100 0 18 = 147 := r18_ne (c := 47) hT r18 (by decide) (by decide) (by decide) ne47
          obtain ⟨M1, p1, p2, p3⟩ := hR.next (X := X) (d := d + 1) hX hT hjlt
          obtain ⟨M2, q1, q2, q3⟩ := u2 d M1 cs p2 (by omega)
          have q3 : RL M2 b n m j1 (cs ++ nw) := q3
          have hln : (cs ++ nw).length < j1 := by rw [List.length_append]; omega
          obtain ⟨M3, s1, s2, s3⟩ := c178 (X := X) (d := d + 8) (s := 25) (v := 0) (x := 25) (y := 0) q3 (by omega) rfl (fun _ => rfl)
          obtain ⟨M', f1, f2, f3⟩ := v2 d M3 (cs ++ nw ++ [(25, 0)]) s2 (by rw [List.length_append]; exact hln)
          refine ⟨M', k3_trans (k3_sub p3 Nx_r) (k3_trans q2 (k3_trans (k3_sub s3 (fun c a j z => by simp only [RfP]; omega)) f1)), rs_pre (by rw [← List.append_assoc]; exact f2), fun Q hQ => w181_9 ⟨fun _ => ⟨fun _ => ⟨_, p1, fun _ => ⟨_, _, q1, fun _ => ⟨_, s1, f3 Q ?_⟩, fun z => absurd z n10⟩, fun z => absurd rfl z⟩, fun z => absurd z a2⟩, fun z => absurd a1 z⟩⟩
          rw [okB_pre] at hQ
          exact hQ
        · match r2, v3 with
          | .inr _, v3 => exact v3
          | .inl (j2, nw2), v3 =>
            obtain ⟨w1, w2, w3, w4, w5⟩ := v3
            refine ⟨by omega, w2, ?_, ?_, fun t ht => Ty_app' (Ty_app' (g5 (false :: t) (by simp only [List.length_cons]; omega)) ⟨_, Or.inr (Or.inr (Or.inr (Or.inr (Or.inl ⟨by decide, by decide, rfl, _, rfl, rfl⟩)))), rfl⟩) (w5 t ht)⟩
            · rw [tr_app, tr_app, List.length_append, List.length_append, show (tr [(25, 0)]).length = 1 from rfl]
              omega
            · rw [List.length_append, List.length_append, show ([(25, 0)] : Cds).length = 1 from rfl]
              omega
    · by_cases hdiv : tk b n j = 20047
      · have hjlt : j < m := tk_in hT (by omega)
        have htb := tk_b hT (j + 1)
        have hin : inR (iN (tk b n (j + 1))) 1 9999 = (decide (1 ≤ tk b n (j + 1)) && decide (tk b n (j + 1) ≤ 9999)) := inR_d (lo := 1) (hi := 9999) (by omega) (by decide) (by decide)
        by_cases hv : 1 ≤ tk b n (j + 1) ∧ tk b n (j + 1) < 10000
        · have hj2 : j + 1 < m := tk_in hT (by omega)
          obtain ⟨r2, v1, v2, v3⟩ := ih (j + 2) (by omega) (by omega)
          refine ⟨rP [(26, tk b n (j + 1))] r2, fun d q M cs hq hC => ?_, fun d M cs hR hl => ?_, ?_⟩
          · have hlc := hC.2.2.2
            obtain ⟨M3, p1, p2, p3⟩ := c36 (X := X) (d := d + 1) hT hC.1 hjlt
            obtain ⟨M4, q1, q2, q3⟩ := c39 (X := X) (d := d) (lo := 1) (hi := 9999) hT p2 hv.2 (by rw [hin, decide_eq_true hv.1, decide_eq_true (by omega)]; rfl)
            obtain ⟨M5, M6, s1, s1b, s2, s3⟩ := ((hC.w.k p2 p3).k q2 q3).emit2 (X := X) (d := d + 1) (v := tk b n (j + 1)) (by omega)
            obtain ⟨M', f1, f2, f3⟩ := v1 d (q + 1) M6 (cs ++ [(26, tk b n (j + 1))]) (by omega) (s2.l (by rw [tr_app, tr_26, List.length_append]; show (tr cs).length + 2 ≤ j + 2; omega))
            refine ⟨M', k3_trans (k3_sub p3 Sp_s) (k3_trans (k3_sub q3 Sp_s) (k3_trans (k3_sub s3 (fun c a j z => Or.inr z)) f1)), rs_pre f2, fun Q hQ => w43_6 ⟨fun z => absurd z (by rw [show (400 ≤ iN q) = False from nle_ (a := 400) (by decide) (by omega) (by omega)]; exact id), fun _ => ⟨_, _, c34 (t := 20042) hT hC.1 (by decide), fun _ => ⟨_, _, c34 (t := 20047) hT hC.1 (by decide), fun z => absurd z (by rw [bI1 hdiv]; exact n10), fun _ => ⟨_, p1, _, _, q1, _, s1, _, s1b, ?_⟩⟩, fun z => absurd (bI0 hmul) z⟩⟩⟩
            rw [iN_step]
            exact f3 Q hQ
          · have r18 := hR.1.2.2.2.2.1
            have a1 : ¬ M.1 100 0 18 = 142 := r18_ne (c := 42) hT r18 (by decide) (by decide) (by decide) hmul
            have a2 : M.1 100 0 18 = 147 := r18_eq (c := 47) r18 (by decide) (by decide) (by decide) hdiv
            obtain ⟨M1, p1, p2, p3⟩ := hR.next (X := X) (d := d + 1) hX hT hjlt
            have t18 := p2.1.2.2.2.2.1
            have t20 := p2.1.2.2.2.2.2 hv.2
            have b1 : M1.1 100 0 18 = 2 := by rw [t18, (Iff.of_eq rt_num).mpr hv.2]; rfl
            have b2 : ¬ M1.1 100 0 20 = 0 := by rw [t20]; intro z; have := (iN_inj (b := 0) (by omega) (by decide)).mp z; omega
            obtain ⟨M4, q1, q2, q3⟩ := p2.next (X := X) (d := d + 1) hX hT hj2
            obtain ⟨M5, s1, s2, s3⟩ := c178 (X := X) (d := d + 8) (s := 26) (v := tk b n (j + 1)) (x := 26) (y := M1.1 100 0 20) q2 (by omega) rfl (fun _ => t20)
            obtain ⟨M', f1, f2, f3⟩ := v2 d M5 (cs ++ [(26, tk b n (j + 1))]) s2 (by rw [List.length_append]; show cs.length + 1 ≤ j + 2; omega)
            refine ⟨M', k3_trans (k3_sub p3 Nx_r) (k3_trans (k3_sub q3 Nx_r) (k3_trans (k3_sub s3 (fun c a j z => by simp only [RfP]; omega)) f1)), rs_pre f2, fun Q hQ => w181_9 ⟨fun z => absurd z a1, fun _ => ⟨fun z => absurd a2 z, fun _ => ⟨fun z => absurd a2 z, fun _ => ⟨_, p1, fun z => absurd z n10, fun _ => ⟨fun _ => ⟨fun _ => ⟨_, q1, _, s1, f3 Q ?_⟩, fun z => absurd z b2⟩, fun z => absurd b1 z⟩⟩⟩⟩⟩⟩
            rw [okB_pre] at hQ
            exact hQ
          · match r2, v3 with
            | .inr _, v3 => exact v3
            | .inl (j2, nw2), v3 =>
              obtain ⟨w1, w2, w3, w4, w5⟩ := v3
              refine ⟨by omega, w2, ?_, ?_, fun t ht => ⟨_, Or.inr (Or.inr (Or.inl ⟨rfl, hv.1, by omega, t, by omega, rfl, rfl⟩)), w5 t ht⟩⟩
              · show (iN (tk b n (j + 1)) :: 20047 :: tr nw2).length ≤ j2 - j
                simp only [List.length_cons]
                omega
              · show nw2.length + 1 ≤ j2 - j
                omega
        · have hE : ∀ e, e = (if tk b n (j + 1) < 10000 then 2 else 1) → 1 ≤ e ∧ e ≤ 3 := fun e he => by split at he <;> omega
          refine ⟨.inr (if tk b n (j + 1) < 10000 then 2 else 1, j + 1), fun d q M cs hq hC => ?_, fun d M cs hR hl => ?_, hE _ rfl⟩
          · obtain ⟨M3, p1, p2, p3⟩ := c36 (X := X) (d := d + 1) hT hC.1 hjlt
            obtain ⟨M4, q1, q2, q3⟩ := c39_f (X := X) (d := d) (lo := 1) (hi := 9999) hT p2 (by
              rw [hin]
              intro z
              have z2 := z.2
              rw [Bool.and_eq_true, decide_eq_true_eq, decide_eq_true_eq] at z2
              omega)
            obtain ⟨M5, s1, s2, s3⟩ := c4_s (X := X) (d := d + 1) (x := 0) q2
            obtain ⟨M6, t1, t2, t3⟩ := c4_s (X := X) (d := d + 1) (x := 20047) s2
            refine ⟨M6, k3_trans (k3_sub p3 Sp_s) (k3_trans (k3_sub q3 Bl_s) (k3_trans s3 t3)), t2, fun Q hQ => w43_6 ⟨fun z => absurd z (by rw [show (400 ≤ iN q) = False from nle_ (a := 400) (by decide) (by omega) (by omega)]; exact id), fun _ => ⟨_, _, c34 (t := 20042) hT hC.1 (by decide), fun _ => ⟨_, _, c34 (t := 20047) hT hC.1 (by decide), fun z => absurd z (by rw [bI1 hdiv]; exact n10), fun _ => ⟨_, p1, _, _, q1, _, s1, _, t1, ?_⟩⟩, fun z => absurd (bI0 hmul) z⟩⟩⟩
            exact c43_6d t2 hQ
          · have r18 := hR.1.2.2.2.2.1
            have a1 : ¬ M.1 100 0 18 = 142 := r18_ne (c := 42) hT r18 (by decide) (by decide) (by decide) hmul
            have a2 : M.1 100 0 18 = 147 := r18_eq (c := 47) r18 (by decide) (by decide) (by decide) hdiv
            obtain ⟨M1, p1, p2, p3⟩ := hR.next (X := X) (d := d + 1) hX hT hjlt
            have t18 := p2.1.2.2.2.2.1
            by_cases hlt : tk b n (j + 1) < 10000
            · have t20 := p2.1.2.2.2.2.2 hlt
              have b1 : M1.1 100 0 18 = 2 := by rw [t18, (Iff.of_eq rt_num).mpr hlt]; rfl
              have b2 : M1.1 100 0 20 = 0 := by rw [t20, show tk b n (j + 1) = 0 by omega]; rfl
              obtain ⟨M2, q1, q2, q3⟩ := c176 (X := X) (d := d + 8) (e := 2) p2.1
              refine ⟨M2, k3_trans (k3_sub p3 Nx_r) (k3_sub q3 (fun c a j z => by simp only [RfP]; omega)), by rw [if_pos hlt]; exact q2, fun Q hQ => w181_9 ⟨fun z => absurd z a1, fun _ => ⟨fun z => absurd a2 z, fun _ => ⟨fun z => absurd a2 z, fun _ => ⟨_, p1, fun z => absurd z n10, fun _ => ⟨fun _ => ⟨fun z => absurd b2 z, fun _ => ⟨_, _, q1, isB0, hQ⟩⟩, fun z => absurd b1 z⟩⟩⟩⟩⟩⟩
            · have b1 : ¬ M1.1 100 0 18 = 2 := by
                rw [t18]
                intro z
                have h2 := rt_b (k := 0) (tk_b hT (j + 1))
                exact hlt ((Iff.of_eq rt_num).mp ((iN_inj (b := 2) (by omega) (by decide)).mp z))
              obtain ⟨M2, q1, q2, q3⟩ := c176 (X := X) (d := d + 8) (e := 1) p2.1
              refine ⟨M2, k3_trans (k3_sub p3 Nx_r) (k3_sub q3 (fun c a j z => by simp only [RfP]; omega)), by rw [if_neg hlt]; exact q2, fun Q hQ => w181_9 ⟨fun z => absurd z a1, fun _ => ⟨fun z => absurd a2 z, fun _ => ⟨fun z => absurd a2 z, fun _ => ⟨_, p1, fun z => absurd z n10, fun _ => ⟨fun z => absurd z b1, fun _ => ⟨_, _, q1, isB0, hQ⟩⟩⟩⟩⟩⟩⟩
      · refine ⟨.inl (j, []), fun d q M cs hq hC => ⟨M, k3_refl, by show CL M b n m j (cs ++ []); rw [List.append_nil]; exact hC, fun Q hQ => w43_6 ⟨fun z => absurd z (by rw [show (400 ≤ iN q) = False from nle_ (a := 400) (by decide) (by omega) (by omega)]; exact id), fun _ => ⟨_, _, c34 (t := 20042) hT hC.1 (by decide), fun _ => ⟨_, _, c34 (t := 20047) hT hC.1 (by decide), fun _ => hQ, fun z => absurd (bI0 hdiv) z⟩, fun z => absurd (bI0 hmul) z⟩⟩⟩, fun d M cs hR hl => ⟨M, k3_refl, by show RL M b n m j (cs ++ []); rw [List.append_nil]; exact hR, fun Q hQ => w181_9 ?_⟩, ⟨by omega, by omega, by simp [tr], by simp, fun t _ => rfl⟩⟩
        have r18 := hR.1.2.2.2.2.1
        have a1 : ¬ M.1 100 0 18 = 142 := r18_ne (c := 42) hT r18 (by decide) (by decide) (by decide) hmul
        have a2 : ¬ M.1 100 0 18 = 147 := r18_ne (c := 47) hT r18 (by decide) (by decide) (by decide) hdiv
        exact ⟨fun z => absurd z a1, fun _ => ⟨fun _ => ⟨isB1, hQ⟩, fun z => absurd z a2⟩⟩
theorem product_sim {X : Cx} {b : Nat → Nat} {n m : Nat} (hX : StrOk X) (hT : Tok b n m) (i : Nat) (hi : i ≤ m) : ∃ r : Rs, (∀ d, ClR X b n m (d + 3) 43 i r) ∧ (∀ d, RfR X b n m (d + 10) 181 i r) ∧ GdR m i 1 r := by
  obtain ⟨r1, u1, u2, u3⟩ := unit_sim hX hT i hi
  match r1, u1, u2, u3 with
  | .inr (e, p), u1, u2, u3 =>
    refine ⟨.inr (e, p), fun d M cs hC => ?_, fun d M cs hR hl => ?_, u3⟩
    · obtain ⟨M1, p1, p2, p3⟩ := u1 d M cs hC
      exact ⟨M1, e43 (w43_0 ⟨_, p1, c43_6d p3 ⟨rfl, rfl⟩⟩), p2, p3⟩
    · obtain ⟨M1, p1, p2, p3⟩ := u2 d M cs hR hl
      exact ⟨M1, e181 (w181_0 ⟨_, _, p1, fun z => absurd rfl z, fun _ => ⟨isB0, rfl, rfl⟩⟩), p2, p3⟩
  | .inl (j, nw), u1, u2, u3 =>
    obtain ⟨g1, g2, g3, g4, g5⟩ := u3
    obtain ⟨r2, v1, v2, v3⟩ := ptail hX hT (m - j) j (Nat.le_refl _) g2
    refine ⟨rP nw r2, fun d M cs hC => ?_, fun d M cs hR hl => ?_, ?_⟩
    · obtain ⟨M1, p1, p2, p3⟩ := u1 d M cs hC
      obtain ⟨M', f1, f2, f3⟩ := v1 d 0 M1 (cs ++ nw) (by omega) p3
      exact ⟨M', e43 (w43_0 ⟨_, p1, f3 _ ⟨rfl, rfl⟩⟩), k3_trans p2 f1, rs_pre f2⟩
    · obtain ⟨M1, p1, p2, p3⟩ := u2 d M cs hR hl
      obtain ⟨M', f1, f2, f3⟩ := v2 d M1 (cs ++ nw) p3 (by rw [List.length_append]; omega)
      exact ⟨M', e181 (w181_0 ⟨_, _, p1, fun _ => f3 _ ⟨by rw [okB_pre], rfl⟩, fun z => absurd z n10⟩), k3_trans p2 f1, rs_pre f2⟩
    · match r2, v3 with
      | .inr _, v3 => exact v3
      | .inl (j2, nw2), v3 =>
        obtain ⟨w1, w2, w3, w4, w5⟩ := v3
        refine ⟨by omega, w2, ?_, ?_, fun t ht => Ty_app' (g5 t (by omega)) (w5 t ht)⟩
        · rw [tr_app, List.length_append]
          omega
        · rw [List.length_append]
          omega
