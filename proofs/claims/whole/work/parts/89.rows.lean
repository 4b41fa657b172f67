/-! rows, one after another, of any kind -/
abbrev Rr : Type := List Nat ⊕ (Nat × Nat)
def rrC (post : List Nat → Prop) (bad : Nat → Nat → Prop) : Rr → Prop
  | .inl P => post P
  | .inr (e, p) => bad e p
def rrR : Rr → Int32
  | .inl P => iN P.length
  | .inr _ => -1
def rrB : Rr → Int32
  | .inl _ => 1
  | .inr _ => 0
abbrev RyP : Nat → Nat → Nat → Prop := fun c a j => a = 0 ∧ ((c = 100 ∧ (j = 15 ∨ j = 17 ∨ j = 18 ∨ j = 19 ∨ j = 20 ∨ j = 21 ∨ j = 22)) ∨ c = 107)
theorem Rq_y : ∀ c a j, RqP c a j → RyP c a j := fun c a j h => by simp only [RqP] at h; simp only [RyP]; omega
theorem b2_y : ∀ c a j, (c = 100 ∧ a = 0 ∧ (j = 21 ∨ j = 22)) → RyP c a j := fun c a j h => by simp only [RyP]; omega
theorem rows_loop {X : Cx} {b : Nat → Nat} {n m k w rtn meth : Nat} {RR : Nat → Nat → R0} {IC IR : Mem → List Nat → Prop} {okP : List Nat → Prop} (hT : Tok b n m) (hw : w < 30001) (hrt : rtn < 2147483648) (hwr : ∀ v, (rt k v = rtn) = (v = w)) (hk1 : 1 ≤ k) (hk3 : k ≤ 3)
    (hN : ∀ q i, ¬ tk b n i = w → RR q i = .inr (1, i)) (hF : ∀ i, tk b n i = w → RR 16 i = .inr (3, i)) (hM : ∀ q i, i < m → inM m (RR q i)) (hG : ∀ q i j, RR q i = .inl j → i < j) (hO : ∀ P i j, okP P → RR P.length i = .inl j → okP (P ++ [i]))
    (hC : ∀ (d i : Nat) (M : Mem) (P : List Nat), P.length ≤ 16 → CA M b n m i → IC M P → ∃ M', CC X (d + 6) meth [vR 3 0, vI (iN P.length)] M none M' ∧ ST M' b n m (RR P.length i) ∧ K3 RdP M M' ∧ ∀ j, RR P.length i = .inl j → IC M' (P ++ [i]))
    (hR : ∀ (f i : Nat) (M : Mem) (P : List Nat), P.length < 16 → tk b n i = w → RS M b n k i → M.1 100 0 15 = iN P.length → IR M P → ∃ M', CC X (f + 39) 195 [vR 100 0] M (some (vI (okR0 (RR P.length i)))) M' ∧ RT M' b n k (RR P.length i) ∧ K3 RqP M M' ∧ ∀ j, RR P.length i = .inl j → IR M' (P ++ [i]))
    (hI : ∀ (M : Mem) (P : List Nat) (x : Int32), IR M P → IR (st M 100 0 15 x) P)
    (hD : ∀ {D : Nat} {M M1 : Mem} {x2 : Int32} {Q : Option Vl → Mem → Prop}, ¬ 16 < x2 → M.1 3 0 13 = 0 → CC X D 34 [vR 3 0, vI 30001] M (some (vI 0)) M → CC X D meth [vR 3 0, vI x2] M none M1 → V X (D + 1) 24 46 [some (vR 3 0), some (vI (iN k)), some (vI (x2 + 1))] [] M1 Q → V X (D + 1) 24 46 [some (vR 3 0), some (vI (iN k)), some (vI x2)] [] M Q)
    (hU : ∀ {D : Nat} {M : Mem} {Q : Option Vl → Mem → Prop}, M.1 100 0 12 = iN k → ¬ M.1 100 0 18 = 0 → (M.1 100 0 18 = iN rtn → (¬ (M.1 100 0 15) = 16 → ∃ (r1 : Int32) (M1 : Mem), CC X D 195 [vR 100 0] M (some (vI r1)) M1 ∧ (r1 = 0 → ∀ M2, M2 = st M1 100 0 15 ((M1.1 100 0 15) + 0) → V X (D + 1) 196 36 [some (vR 100 0), some (vI r1)] [] M2 Q) ∧ (¬ r1 = 0 → ∀ M3, M3 = st M1 100 0 15 ((M1.1 100 0 15) + 1) → V X (D + 1) 196 36 [some (vR 100 0), some (vI r1)] [] M3 Q)) ∧ ((M.1 100 0 15) = 16 → ∃ (r2 : Int32) (M4 : Mem), CC X D 176 [vR 100 0, vI 3] M (some (vI r2)) M4 ∧ isB r2 ∧ Q (some (vI r2)) M4)) → (¬ M.1 100 0 18 = iN rtn → ∃ (r3 : Int32) (M5 : Mem), CC X D 176 [vR 100 0, vI 1] M (some (vI r3)) M5 ∧ isB r3 ∧ Q (some (vI r3)) M5) → V X (D + 1) 196 36 [some (vR 100 0), some (vI 1)] [] M Q) :
    ∀ (z i : Nat) (P : List Nat), m - i < z → i ≤ m → P.length ≤ 16 → okP P → ∃ r : Rr, (∀ (d : Nat) (M : Mem), CA M b n m i → IC M P → ∃ M', K3 RdP M M' ∧ rrC (fun P' => CA M' b n m m ∧ IC M' P') (fun e p => DD M' b n m e p) r ∧ ∀ Q : Option Vl → Mem → Prop, Q (some (vI (rrR r))) M' → V X (d + 7) 24 46 [some (vR 3 0), some (vI (iN k)), some (vI (iN P.length))] [] M Q) ∧ (∀ (f : Nat) (M : Mem), RS M b n k i → M.1 100 0 15 = iN P.length → IR M P → ∃ M', K3 RyP M M' ∧ rrC (fun P' => RS M' b n k m ∧ M'.1 100 0 15 = iN P'.length ∧ IR M' P') (fun e p => Bad M' b n e p) r ∧ ∀ Q : Option Vl → Mem → Prop, Q (some (vI (rrB r))) M' → V X (f + 40) 196 36 [some (vR 100 0), some (vI 1)] [] M Q) ∧ rrC (fun P' => P'.length ≤ 16 ∧ okP P') (fun e _ => 1 ≤ e ∧ e ≤ 3) r := by
  have hm := hT.1
  have hn := hT.2.1
  intro z
  induction z with
  | zero =>
    intro i P hz
    exact absurd hz (Nat.not_lt_zero _)
  | succ z ih =>
    intro i P hz him hP16 hoP
    have g16 : ¬ 16 < iN P.length := by rw [show (16 < iN P.length) = False from nlt_ (a := 16) (by decide) (by omega) (by omega)]; exact id
    by_cases hend : i = m
    · subst hend
      have htk := tk_ge hT (Nat.le_refl i)
      refine ⟨.inl P, fun d M hS hI => ⟨M, k3_refl, ⟨hS, hI⟩, fun Q hQ => w24_46 ⟨fun z => absurd z g16, fun _ => ⟨fun z => absurd hS.2.1 z, fun _ => ⟨_, _, c34 (t := 30001) hT hS (by decide), fun _ => ⟨fun z => absurd hS.2.1 z, fun _ => hQ⟩, fun z => absurd z (by rw [bI1 htk]; exact n10)⟩⟩⟩⟩, fun f M hS h15 hI => ⟨M, k3_refl, ⟨hS, h15, hI⟩, fun Q hQ => w196_36 ⟨fun z => absurd z n10, fun _ => ⟨fun _ => ⟨isB1, hQ⟩, fun z => absurd ?_ z⟩⟩⟩, ⟨hP16, hoP⟩⟩
      rw [hS.2.2.2.2.1, (Iff.of_eq rt_end).mpr htk]
      rfl
    · have hi : i < m := by omega
      have htk : ¬ tk b n i = 30001 := by rcases tk_lt hT hi with h | h | h | h <;> omega
      have htb := tk_b hT i
      have hrb := rt_b (k := k) htb
      have f0 : ∀ {M : Mem}, RS M b n k i → ¬ M.1 100 0 18 = 0 := by
        intro M hR z
        rw [hR.2.2.2.2.1] at z
        exact htk ((Iff.of_eq rt_end).mp ((iN_inj (b := 0) (by omega) (by decide)).mp z))
      have fw : ∀ {M : Mem}, RS M b n k i → (M.1 100 0 18 = iN rtn) = (tk b n i = w) := fun hR => r18_w hT hR hrt hwr
      have c30 : ∀ {D : Nat} {M : Mem}, CA M b n m i → CC X (D + 1) 34 [vR 3 0, vI 30001] M (some (vI 0)) M := by
        intro D M hS
        have := c34 (X := X) (d := D) (t := 30001) hT hS (by decide)
        rw [bI0 htk] at this
        exact this
      have hmr := hM P.length i hi
      -- a row that fails
      have bad : ∀ e p, RR P.length i = .inr (e, p) → (∀ (f : Nat) (M : Mem), RS M b n k i → M.1 100 0 15 = iN P.length → IR M P → ∃ M', K3 RyP M M' ∧ Bad M' b n e p ∧ ∀ Q : Option Vl → Mem → Prop, Q (some (vI 0)) M' → V X (f + 40) 196 36 [some (vR 100 0), some (vI 1)] [] M Q) → ∃ r : Rr, (∀ (d : Nat) (M : Mem), CA M b n m i → IC M P → ∃ M', K3 RdP M M' ∧ rrC (fun P' => CA M' b n m m ∧ IC M' P') (fun e p => DD M' b n m e p) r ∧ ∀ Q : Option Vl → Mem → Prop, Q (some (vI (rrR r))) M' → V X (d + 7) 24 46 [some (vR 3 0), some (vI (iN k)), some (vI (iN P.length))] [] M Q) ∧ (∀ (f : Nat) (M : Mem), RS M b n k i → M.1 100 0 15 = iN P.length → IR M P → ∃ M', K3 RyP M M' ∧ rrC (fun P' => RS M' b n k m ∧ M'.1 100 0 15 = iN P'.length ∧ IR M' P') (fun e p => Bad M' b n e p) r ∧ ∀ Q : Option Vl → Mem → Prop, Q (some (vI (rrB r))) M' → V X (f + 40) 196 36 [some (vR 100 0), some (vI 1)] [] M Q) ∧ rrC (fun P' => P'.length ≤ 16 ∧ okP P') (fun e _ => 1 ≤ e ∧ e ≤ 3) r := by
        intro e p hrr hrf
        refine ⟨.inr (e, p), fun d M hS hIC => ?_, hrf, by rw [hrr] at hmr; exact hmr⟩
        obtain ⟨M1, p1, p2, p3, p4⟩ := hC d i M P hP16 hS hIC
        rw [hrr] at p2
        exact ⟨M1, p3, p2, fun Q hQ => hD g16 hS.2.1 (c30 hS) p1 (dead24 p2 hQ)⟩
      by_cases hkw : tk b n i = w
      · by_cases h16 : P.length = 16
        · refine bad 3 i (by rw [h16]; exact hF i hkw) (fun f M hS h15 hI' => ?_)
          obtain ⟨M1, p1, p2, p3⟩ := c176 (X := X) (d := f + 38) (e := 3) hS
          exact ⟨M1, k3_sub p3 b2_y, p2, fun Q hQ => hU hS.2.1 (f0 hS) (fun _ => ⟨fun z => absurd (by rw [h15, h16]; rfl) z, fun _ => ⟨_, _, p1, isB0, hQ⟩⟩) (fun z => absurd ((Iff.of_eq (fw hS)).mpr hkw) z)⟩
        · have hq : P.length < 16 := by omega
          have n15 : ∀ {M : Mem}, M.1 100 0 15 = iN P.length → ¬ M.1 100 0 15 = 16 := by
            intro M h15
            rw [h15, show (iN P.length = 16) = False from neq_ (b := 16) (by omega) (by decide) (by omega)]
            exact id
          match hrr : RR P.length i, hmr with
          | .inr (e, p), hmr =>
            refine bad e p hrr (fun f M hS h15 hI' => ?_)
            obtain ⟨M1, p1, p2, p3, p4⟩ := hR f i M P hq hkw hS h15 hI'
            rw [hrr] at p1 p2
            refine ⟨st M1 100 0 15 (M1.1 100 0 15 + 0), k3_trans (k3_sub p3 Rq_y) (k3_st (by simp [RyP])), ⟨by rw [st_ne3 (by omega)]; exact p2.1, by rw [st_ne3 (by omega)]; exact p2.2⟩, fun Q hQ => hU hS.2.1 (f0 hS) (fun _ => ⟨fun _ => ⟨_, _, p1, fun _ M2 hM2 => ?_, fun z => absurd rfl z⟩, fun z => absurd z (n15 h15)⟩) (fun z => absurd ((Iff.of_eq (fw hS)).mpr hkw) z)⟩
            subst hM2
            exact w196_36 ⟨fun _ => ⟨isB0, hQ⟩, fun z => absurd rfl z⟩
          | .inl j, hmr =>
            have hij := hG P.length i j hrr
            have hjm : j ≤ m := hmr
            have hlen : (P ++ [i]).length = P.length + 1 := by rw [List.length_append]; rfl
            obtain ⟨r, v1, v2, v3⟩ := ih j (P ++ [i]) (by omega) hjm (by omega) (hO P i j hoP hrr)
            refine ⟨r, fun d M hS hIC => ?_, fun f M hS h15 hI' => ?_, v3⟩
            · obtain ⟨M1, p1, p2, p3, p4⟩ := hC d i M P hP16 hS hIC
              rw [hrr] at p2
              obtain ⟨M', z1, z2, z3⟩ := v1 d M1 p2 (p4 j hrr)
              rw [hlen] at z3
              refine ⟨M', k3_trans p3 z1, z2, fun Q hQ => hD g16 hS.2.1 (c30 hS) p1 ?_⟩
              rw [iN_step]
              exact z3 Q hQ
            · obtain ⟨M1, p1, p2, p3, p4⟩ := hR f i M P hq hkw hS h15 hI'
              rw [hrr] at p1 p2
              have v15 : M1.1 100 0 15 = iN P.length := by rw [p3 100 0 15 (by simp [RqP])]; exact h15
              have k15 : K3 (fun c a j => c = 100 ∧ a = 0 ∧ j = 15) M1 (st M1 100 0 15 (M1.1 100 0 15 + 1)) := k3_st ⟨rfl, rfl, rfl⟩
              have hS2 : RS (st M1 100 0 15 (M1.1 100 0 15 + 1)) b n k j := RS.k (show RS M1 b n k j from p2) k15 (fun j hj => by omega) (fun j => by omega)
              obtain ⟨M', z1, z2, z3⟩ := v2 f _ hS2 (by rw [st_at, v15, iN_step, hlen]) (hI _ _ _ (p4 j hrr))
              refine ⟨M', k3_trans (k3_sub p3 Rq_y) (k3_trans (k3_st (by simp [RyP])) z1), z2, fun Q hQ => hU hS.2.1 (f0 hS) (fun _ => ⟨fun _ => ⟨_, _, p1, fun z => absurd z n10, fun _ M3 hM3 => ?_⟩, fun z => absurd z (n15 h15)⟩) (fun z => absurd ((Iff.of_eq (fw hS)).mpr hkw) z)⟩
              subst hM3
              exact z3 Q hQ
      · refine bad 1 i (hN P.length i hkw) (fun f M hS h15 hI' => ?_)
        obtain ⟨M1, p1, p2, p3⟩ := c176 (X := X) (d := f + 38) (e := 1) hS
        exact ⟨M1, k3_sub p3 b2_y, p2, fun Q hQ => hU hS.2.1 (f0 hS) (fun z => absurd ((Iff.of_eq (fw hS)).mp z) hkw) (fun _ => ⟨_, _, p1, isB0, hQ⟩)⟩
