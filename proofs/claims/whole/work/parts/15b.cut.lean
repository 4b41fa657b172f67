-- ClayBoots$Reader.product, from 0
set_option maxRecDepth 100000 in
theorem w43_0 {X : Cx} {d : Nat} {M : Mem} {Q : Option Vl → Mem → Prop}
    (h : ∃ (M1 : Mem), CC X d 44 [vR 3 0] M none M1 ∧ V X (d + 1) 43 6 [some (vR 3 0), some (vI 0)] [] M1 Q) :
    V X (d + 1) 43 0 [some (vR 3 0), none] [] M Q := wpn_sound (cuts := [(6, [true, true])]) ok43 5 0 _ _ _ h
-- ClayBoots$Reader.product, from 6
set_option maxRecDepth 100000 in
theorem w43_6 {X : Cx} {d : Nat} {M : Mem} {Q : Option Vl → Mem → Prop} {x1 : Int32}
    (h : (400 ≤ x1 → Q (none) M) ∧ (¬ 400 ≤ x1 → ∃ (r1 : Int32) (M1 : Mem), CC X d 34 [vR 3 0, vI 20042] M (some (vI r1)) M1 ∧ (r1 = 0 → ∃ (r2 : Int32) (M2 : Mem), CC X d 34 [vR 3 0, vI 20047] M1 (some (vI r2)) M2 ∧ (r2 = 0 → Q (none) M2) ∧ (¬ r2 = 0 → ∃ (M3 : Mem), CC X d 36 [vR 3 0] M2 none M3 ∧ ∃ (r3 : Int32) (M4 : Mem), CC X d 39 [vR 3 0, vI 1, vI 9999] M3 (some (vI r3)) M4 ∧ ∃ (M5 : Mem), CC X d 4 [vR 40 1, vI r3] M4 none M5 ∧ ∃ (M6 : Mem), CC X d 4 [vR 40 1, vI 20047] M5 none M6 ∧ V X (d + 1) 43 6 [some (vR 3 0), some (vI (x1 + 1))] [] M6 Q)) ∧ (¬ r1 = 0 → ∃ (M7 : Mem), CC X d 36 [vR 3 0] M1 none M7 ∧ ∃ (M8 : Mem), CC X d 44 [vR 3 0] M7 none M8 ∧ ∃ (M9 : Mem), CC X d 4 [vR 40 1, vI 20042] M8 none M9 ∧ V X (d + 1) 43 6 [some (vR 3 0), some (vI (x1 + 1))] [] M9 Q))) :
    V X (d + 1) 43 6 [some (vR 3 0), some (vI x1)] [] M Q := wpn_sound (cuts := [(6, [true, true])]) ok43 28 6 _ _ _ h
theorem e43 {X : Cx} {d : Nat} {M M2 : Mem} (h : V X d 43 0 [some (vR 3 0), none] [] M (fun r' M' => r' = none ∧ M' = M2)) : CC X d 43 [vR 3 0] M none M2 := CC_of (by decide) trivial (Nat.le_of_ble_eq_true rfl) (by simp [c1]) h
-- ClayBoots$Reader.operand, from 0
set_option maxRecDepth 100000 in
theorem w44_0 {X : Cx} {d : Nat} {M : Mem} {Q : Option Vl → Mem → Prop}
    (h : (¬ (M.1 3 0 13) = 0 → ∃ (M1 : Mem), CC X d 37 [vR 3 0, vI 1] M none M1 ∧ Q (none) M1) ∧ ((M.1 3 0 13) = 0 → (10010 ≤ (M.1 3 0 10) → ∃ (M2 : Mem), CC X d 37 [vR 3 0, vI 1] M none M2 ∧ Q (none) M2) ∧ (¬ 10010 ≤ (M.1 3 0 10) → ∃ (M3 : Mem), CC X d 4 [vR 40 1, vI (M.1 3 0 10)] M none M3 ∧ ∃ (M4 : Mem), CC X d 36 [vR 3 0] M3 none M4 ∧ Q (none) M4))) :
    V X (d + 1) 44 0 [some (vR 3 0)] [] M Q := wpn_sound (cuts := []) ok44 17 0 _ _ _ h
theorem e44 {X : Cx} {d : Nat} {M M2 : Mem} (h : V X d 44 0 [some (vR 3 0)] [] M (fun r' M' => r' = none ∧ M' = M2)) : CC X d 44 [vR 3 0] M none M2 := CC_of (by decide) trivial (Nat.le_of_ble_eq_true rfl) (by simp [c1]) h
-- ClayBoots$Reader.condition, from 0
set_option maxRecDepth 100000 in
theorem w45_0 {X : Cx} {d : Nat} {M : Mem} {Q : Option Vl → Mem → Prop}
    (h : ∀ M1, M1 = st M 3 0 11 0 → ∀ M2, M2 = st M1 3 0 12 0 → V X (d + 1) 45 14 [some (vR 3 0), some (vI 1), some (vI 0), none] [] M2 Q) :
    V X (d + 1) 45 0 [some (vR 3 0), none, none, none] [] M Q := wpn_sound (cuts := [(14, [true, true, true, false])]) ok45 11 0 _ _ _ h
-- ClayBoots$Reader.condition, from 14
set_option maxRecDepth 100000 in
theorem w45_14 {X : Cx} {d : Nat} {M : Mem} {Q : Option Vl → Mem → Prop} {x1 x2 : Int32}
    (h : (400 ≤ x2 → Q (none) M) ∧ (¬ 400 ≤ x2 → (x1 = 0 → Q (none) M) ∧ (¬ x1 = 0 → (¬ (M.1 3 0 13) = 0 → Q (none) M) ∧ ((M.1 3 0 13) = 0 → ∃ (r1 : Int32) (M1 : Mem), CC X d 34 [vR 3 0, vI 10016] M (some (vI r1)) M1 ∧ (¬ r1 = 0 → ((M1.1 3 0 12) < 8 → ∀ M2, M2 = st M1 3 0 12 ((M1.1 3 0 12) + 1) → ∃ (M3 : Mem), CC X d 46 [vR 3 0] M2 none M3 ∧ V X (d + 1) 45 14 [some (vR 3 0), some (vI x1), some (vI (x2 + 1)), none] [] M3 Q) ∧ (¬ (M1.1 3 0 12) < 8 → ∃ (M4 : Mem), CC X d 37 [vR 3 0, vI 3] M1 none M4 ∧ ∀ M5, M5 = st M4 3 0 12 ((M4.1 3 0 12) + 1) → ∃ (M6 : Mem), CC X d 46 [vR 3 0] M5 none M6 ∧ V X (d + 1) 45 14 [some (vR 3 0), some (vI x1), some (vI (x2 + 1)), none] [] M6 Q)) ∧ (r1 = 0 → ∃ (r2 : Int32) (M7 : Mem), CC X d 34 [vR 3 0, vI 20040] M1 (some (vI r2)) M7 ∧ (r2 = 0 → ∃ (M8 : Mem), CC X d 42 [vR 3 0] M7 none M8 ∧ ∃ (r3 : Int32) (M9 : Mem), CC X d 34 [vR 3 0, vI 20060] M8 (some (vI r3)) M9 ∧ (¬ r3 = 0 → ∃ (M10 : Mem), CC X d 36 [vR 3 0] M9 none M10 ∧ ∃ (M11 : Mem), CC X d 42 [vR 3 0] M10 none M11 ∧ ∃ (M12 : Mem), CC X d 4 [vR 40 1, vI (M8.1 3 0 10)] M11 none M12 ∧ ∃ (r4 : Int32) (M13 : Mem), CC X d 47 [vR 3 0] M12 (some (vI r4)) M13 ∧ V X (d + 1) 45 14 [some (vR 3 0), some (vI r4), some (vI (x2 + 1)), none] [] M13 Q) ∧ (r3 = 0 → ∃ (r5 : Int32) (M14 : Mem), CC X d 34 [vR 3 0, vI 20061] M9 (some (vI r5)) M14 ∧ (¬ r5 = 0 → ∃ (M15 : Mem), CC X d 36 [vR 3 0] M14 none M15 ∧ ∃ (M16 : Mem), CC X d 42 [vR 3 0] M15 none M16 ∧ ∃ (M17 : Mem), CC X d 4 [vR 40 1, vI (M8.1 3 0 10)] M16 none M17 ∧ ∃ (r6 : Int32) (M18 : Mem), CC X d 47 [vR 3 0] M17 (some (vI r6)) M18 ∧ V X (d + 1) 45 14 [some (vR 3 0), some (vI r6), some (vI (x2 + 1)), none] [] M18 Q) ∧ (r5 = 0 → ∃ (r7 : Int32) (M19 : Mem), CC X d 34 [vR 3 0, vI 20062] M14 (some (vI r7)) M19 ∧ (¬ r7 = 0 → ∃ (M20 : Mem), CC X d 36 [vR 3 0] M19 none M20 ∧ ∃ (M21 : Mem), CC X d 42 [vR 3 0] M20 none M21 ∧ ∃ (M22 : Mem), CC X d 4 [vR 40 1, vI (M8.1 3 0 10)] M21 none M22 ∧ ∃ (r8 : Int32) (M23 : Mem), CC X d 47 [vR 3 0] M22 (some (vI r8)) M23 ∧ V X (d + 1) 45 14 [some (vR 3 0), some (vI r8), some (vI (x2 + 1)), none] [] M23 Q) ∧ (r7 = 0 → ∃ (M24 : Mem), CC X d 37 [vR 3 0, vI 1] M19 none M24 ∧ ∃ (M25 : Mem), CC X d 36 [vR 3 0] M24 none M25 ∧ ∃ (M26 : Mem), CC X d 42 [vR 3 0] M25 none M26 ∧ ∃ (M27 : Mem), CC X d 4 [vR 40 1, vI (M8.1 3 0 10)] M26 none M27 ∧ ∃ (r9 : Int32) (M28 : Mem), CC X d 47 [vR 3 0] M27 (some (vI r9)) M28 ∧ V X (d + 1) 45 14 [some (vR 3 0), some (vI r9), some (vI (x2 + 1)), none] [] M28 Q)))) ∧ (¬ r2 = 0 → ((M7.1 3 0 12) < 8 → ∀ M29, M29 = st M7 3 0 12 ((M7.1 3 0 12) + 1) → ∃ (M30 : Mem), CC X d 46 [vR 3 0] M29 none M30 ∧ V X (d + 1) 45 14 [some (vR 3 0), some (vI x1), some (vI (x2 + 1)), none] [] M30 Q) ∧ (¬ (M7.1 3 0 12) < 8 → ∃ (M31 : Mem), CC X d 37 [vR 3 0, vI 3] M7 none M31 ∧ ∀ M32, M32 = st M31 3 0 12 ((M31.1 3 0 12) + 1) → ∃ (M33 : Mem), CC X d 46 [vR 3 0] M32 none M33 ∧ V X (d + 1) 45 14 [some (vR 3 0), some (vI x1), some (vI (x2 + 1)), none] [] M33 Q))))))) :
    V X (d + 1) 45 14 [some (vR 3 0), some (vI x1), some (vI x2), none] [] M Q := wpn_sound (cuts := [(14, [true, true, true, false])]) ok45 50 14 _ _ _ h
theorem e45 {X : Cx} {d : Nat} {M M2 : Mem} (h : V X d 45 0 [some (vR 3 0), none, none, none] [] M (fun r' M' => r' = none ∧ M' = M2)) : CC X d 45 [vR 3 0] M none M2 := CC_of (by decide) trivial (Nat.le_of_ble_eq_true rfl) (by simp [c1]) h
-- ClayBoots$Reader.await, from 0
set_option maxRecDepth 100000 in
theorem w46_0 {X : Cx} {d : Nat} {M : Mem} {Q : Option Vl → Mem → Prop}
    (h : (32 ≤ (M.1 3 0 11) → ∃ (M1 : Mem), CC X d 36 [vR 3 0] M none M1 ∧ Q (none) M1) ∧ (¬ 32 ≤ (M.1 3 0 11) → inb (M.1 3 0 11) 32 ∧ ∀ M2, M2 = st M 7 0 (ix (M.1 3 0 11)) (M.1 3 0 10) → ∀ M3, M3 = st M2 3 0 11 ((M2.1 3 0 11) + 1) → ∃ (M4 : Mem), CC X d 36 [vR 3 0] M3 none M4 ∧ Q (none) M4)) :
    V X (d + 1) 46 0 [some (vR 3 0)] [] M Q := wpn_sound (cuts := []) ok46 21 0 _ _ _ h
theorem e46 {X : Cx} {d : Nat} {M M2 : Mem} (h : V X d 46 0 [some (vR 3 0)] [] M (fun r' M' => r' = none ∧ M' = M2)) : CC X d 46 [vR 3 0] M none M2 := CC_of (by decide) trivial (Nat.le_of_ble_eq_true rfl) (by simp [c1]) h
-- ClayBoots$Reader.closeAndJoin, from 0
set_option maxRecDepth 100000 in
theorem w47_0 {X : Cx} {d : Nat} {M : Mem} {Q : Option Vl → Mem → Prop}
    (h : V X (d + 1) 47 2 [some (vR 3 0), some (vI 0)] [] M Q) :
    V X (d + 1) 47 0 [some (vR 3 0), none] [] M Q := wpn_sound (cuts := [(2, [true, true])]) ok47 3 0 _ _ _ h
-- ClayBoots$Reader.closeAndJoin, from 2
set_option maxRecDepth 100000 in
theorem w47_2 {X : Cx} {d : Nat} {M : Mem} {Q : Option Vl → Mem → Prop} {x1 : Int32}
    (h : (8 ≤ x1 → ∃ (r1 : Int32) (M1 : Mem), CC X d 34 [vR 3 0, vI 10015] M (some (vI r1)) M1 ∧ (¬ r1 = 0 → ∃ (M2 : Mem), CC X d 48 [vR 3 0, vI (M1.1 3 0 10)] M1 none M2 ∧ ∃ (M3 : Mem), CC X d 46 [vR 3 0] M2 none M3 ∧ isB 1 ∧ Q (some (vI 1)) M3) ∧ (r1 = 0 → ∃ (r2 : Int32) (M4 : Mem), CC X d 34 [vR 3 0, vI 10014] M1 (some (vI r2)) M4 ∧ (r2 = 0 → ∃ (M5 : Mem), CC X d 48 [vR 3 0, vI 10014] M4 none M5 ∧ ((M5.1 3 0 11) ≤ 0 → isB 0 ∧ Q (some (vI 0)) M5) ∧ (¬ (M5.1 3 0 11) ≤ 0 → ∃ (M6 : Mem), CC X d 37 [vR 3 0, vI 1] M5 none M6 ∧ isB 0 ∧ Q (some (vI 0)) M6)) ∧ (¬ r2 = 0 → ∃ (M7 : Mem), CC X d 48 [vR 3 0, vI (M4.1 3 0 10)] M4 none M7 ∧ ∃ (M8 : Mem), CC X d 46 [vR 3 0] M7 none M8 ∧ isB 1 ∧ Q (some (vI 1)) M8))) ∧ (¬ 8 ≤ x1 → ∃ (r3 : Int32) (M9 : Mem), CC X d 34 [vR 3 0, vI 20041] M (some (vI r3)) M9 ∧ (r3 = 0 → ∃ (r4 : Int32) (M10 : Mem), CC X d 34 [vR 3 0, vI 10015] M9 (some (vI r4)) M10 ∧ (¬ r4 = 0 → ∃ (M11 : Mem), CC X d 48 [vR 3 0, vI (M10.1 3 0 10)] M10 none M11 ∧ ∃ (M12 : Mem), CC X d 46 [vR 3 0] M11 none M12 ∧ isB 1 ∧ Q (some (vI 1)) M12) ∧ (r4 = 0 → ∃ (r5 : Int32) (M13 : Mem), CC X d 34 [vR 3 0, vI 10014] M10 (some (vI r5)) M13 ∧ (r5 = 0 → ∃ (M14 : Mem), CC X d 48 [vR 3 0, vI 10014] M13 none M14 ∧ ((M14.1 3 0 11) ≤ 0 → isB 0 ∧ Q (some (vI 0)) M14) ∧ (¬ (M14.1 3 0 11) ≤ 0 → ∃ (M15 : Mem), CC X d 37 [vR 3 0, vI 1] M14 none M15 ∧ isB 0 ∧ Q (some (vI 0)) M15)) ∧ (¬ r5 = 0 → ∃ (M16 : Mem), CC X d 48 [vR 3 0, vI (M13.1 3 0 10)] M13 none M16 ∧ ∃ (M17 : Mem), CC X d 46 [vR 3 0] M16 none M17 ∧ isB 1 ∧ Q (some (vI 1)) M17))) ∧ (¬ r3 = 0 → ∃ (M18 : Mem), CC X d 48 [vR 3 0, vI 10014] M9 none M18 ∧ (¬ (M18.1 3 0 11) = 0 → ∀ M19, M19 = st M18 3 0 11 ((M18.1 3 0 11) - 1) → ∀ M20, M20 = st M19 3 0 12 ((M19.1 3 0 12) - 1) → ∃ (M21 : Mem), CC X d 36 [vR 3 0] M20 none M21 ∧ V X (d + 1) 47 2 [some (vR 3 0), some (vI (x1 + 1))] [] M21 Q) ∧ ((M18.1 3 0 11) = 0 → isB 0 ∧ Q (some (vI 0)) M18)))) :
    V X (d + 1) 47 2 [some (vR 3 0), some (vI x1)] [] M Q := wpn_sound (cuts := [(2, [true, true])]) ok47 30 2 _ _ _ h
theorem e47 {X : Cx} {d : Nat} {M M2 : Mem} {r : Int32} (h : V X d 47 0 [some (vR 3 0), none] [] M (fun r' M' => r' = (some (vI r)) ∧ M' = M2)) : CC X d 47 [vR 3 0] M (some (vI r)) M2 := CC_of (by decide) trivial (Nat.le_of_ble_eq_true rfl) (by simp [c1]) h
-- ClayBoots$Reader.settle, from 0
set_option maxRecDepth 100000 in
theorem w48_0 {X : Cx} {d : Nat} {M : Mem} {Q : Option Vl → Mem → Prop} {p0 : Int32}
    (h : V X (d + 1) 48 2 [some (vR 3 0), some (vI p0), some (vI 0), none] [] M Q) :
    V X (d + 1) 48 0 [some (vR 3 0), some (vI p0), none, none] [] M Q := wpn_sound (cuts := [(2, [true, true, true, false])]) ok48 3 0 _ _ _ h
-- ClayBoots$Reader.settle, from 2
set_option maxRecDepth 100000 in
theorem w48_2 {X : Cx} {d : Nat} {M : Mem} {Q : Option Vl → Mem → Prop} {x1 x2 : Int32}
    (h : (32 ≤ x2 → Q (none) M) ∧ (¬ 32 ≤ x2 → ((M.1 3 0 11) ≤ 0 → Q (none) M) ∧ (¬ (M.1 3 0 11) ≤ 0 → (32 < (M.1 3 0 11) → Q (none) M) ∧ (¬ 32 < (M.1 3 0 11) → inb ((M.1 3 0 11) - 1) 32 ∧ ((M.1 7 0 (ix ((M.1 3 0 11) - 1))) < x1 → Q (none) M) ∧ (¬ (M.1 7 0 (ix ((M.1 3 0 11) - 1))) < x1 → ((M.1 7 0 (ix ((M.1 3 0 11) - 1))) ≤ 10016 → (¬ (M.1 7 0 (ix ((M.1 3 0 11) - 1))) = 10016 → ∃ (M1 : Mem), CC X d 4 [vR 40 1, vI (M.1 7 0 (ix ((M.1 3 0 11) - 1)))] M none M1 ∧ ∀ M2, M2 = st M1 3 0 11 ((M1.1 3 0 11) - 1) → V X (d + 1) 48 2 [some (vR 3 0), some (vI x1), some (vI (x2 + 1)), none] [] M2 Q) ∧ ((M.1 7 0 (ix ((M.1 3 0 11) - 1))) = 10016 → ∀ M3, M3 = st M 3 0 12 ((M.1 3 0 12) - 1) → ∃ (M4 : Mem), CC X d 4 [vR 40 1, vI (M.1 7 0 (ix ((M.1 3 0 11) - 1)))] M3 none M4 ∧ ∀ M5, M5 = st M4 3 0 11 ((M4.1 3 0 11) - 1) → V X (d + 1) 48 2 [some (vR 3 0), some (vI x1), some (vI (x2 + 1)), none] [] M5 Q)) ∧ (¬ (M.1 7 0 (ix ((M.1 3 0 11) - 1))) ≤ 10016 → Q (none) M)))))) :
    V X (d + 1) 48 2 [some (vR 3 0), some (vI x1), some (vI x2), none] [] M Q := wpn_sound (cuts := [(2, [true, true, true, false])]) ok48 46 2 _ _ _ h
theorem e48 {X : Cx} {d : Nat} {M M2 : Mem} {p0 : Int32} (h : V X d 48 0 [some (vR 3 0), some (vI p0), none, none] [] M (fun r' M' => r' = none ∧ M' = M2)) : CC X d 48 [vR 3 0, vI p0] M none M2 := CC_of (by decide) trivial (Nat.le_of_ble_eq_true rfl) (by simp [c1]) h
-- ClayBoots$Reader.callLine, from 0
set_option maxRecDepth 100000 in
theorem w49_0 {X : Cx} {d : Nat} {M : Mem} {Q : Option Vl → Mem → Prop} {p0 : Int32}
    (h : ∃ (r1 : Int32) (M1 : Mem), CC X d 34 [vR 3 0, vI 10017] M (some (vI r1)) M1 ∧ ∃ (M2 : Mem), CC X d 40 [vR 3 0, vI r1, vI p0] M1 none M2 ∧ ∃ (r2 : Int32) (M3 : Mem), CC X d 39 [vR 3 0, vI 0, vI 999] M2 (some (vI r2)) M3 ∧ ∃ (M4 : Mem), CC X d 38 [vR 3 0, vI 10018] M3 none M4 ∧ ∃ (r3 : Int32) (M5 : Mem), CC X d 39 [vR 3 0, vI 0, vI ((M4.1 20 0 7) - 1)] M4 (some (vI r3)) M5 ∧ ∃ (M6 : Mem), CC X d 38 [vR 3 0, vI 10019] M5 none M6 ∧ ∃ (r4 : Int32) (M7 : Mem), CC X d 50 [vR 3 0] M6 (some (vI r4)) M7 ∧ ∃ (M8 : Mem), CC X d 38 [vR 3 0, vI 10020] M7 none M8 ∧ ∃ (r5 : Int32) (M9 : Mem), CC X d 39 [vR 3 0, vI 0, vI ((M8.1 20 0 6) - 1)] M8 (some (vI r5)) M9 ∧ ∃ (M10 : Mem), CC X d 38 [vR 3 0, vI 20059] M9 none M10 ∧ (p0 < 0 → Q (none) M10) ∧ (¬ p0 < 0 → (16 ≤ p0 → Q (none) M10) ∧ (¬ 16 ≤ p0 → inb p0 16 ∧ ∀ M11, M11 = st M10 53 1 (ix p0) r2 → inb p0 16 ∧ ∀ M12, M12 = st M11 54 1 (ix p0) r3 → inb p0 16 ∧ ∀ M13, M13 = st M12 55 1 (ix p0) r4 → inb p0 16 ∧ ∀ M14, M14 = st M13 56 1 (ix p0) r5 → ∀ M15, M15 = st M14 50 1 0 (p0 + 1) → Q (none) M15))) :
    V X (d + 1) 49 0 [some (vR 3 0), some (vI p0), none, none, none, none] [] M Q := wpn_sound (cuts := []) ok49 81 0 _ _ _ h
theorem e49 {X : Cx} {d : Nat} {M M2 : Mem} {p0 : Int32} (h : V X d 49 0 [some (vR 3 0), some (vI p0), none, none, none, none] [] M (fun r' M' => r' = none ∧ M' = M2)) : CC X d 49 [vR 3 0, vI p0] M none M2 := CC_of (by decide) trivial (Nat.le_of_ble_eq_true rfl) (by simp [c1]) h
-- ClayBoots$Reader.fieldRow, from 0
set_option maxRecDepth 100000 in
theorem w50_0 {X : Cx} {d : Nat} {M : Mem} {Q : Option Vl → Mem → Prop}
    (h : ∃ (r1 : Int32) (M1 : Mem), CC X d 39 [vR 3 0, vI 0, vI ((M.1 20 0 5) - 1)] M (some (vI r1)) M1 ∧ V X (d + 1) 50 20 [some (vR 3 0), some (vI (10 + r1)), some (vI 1)] [] M1 Q) :
    V X (d + 1) 50 0 [some (vR 3 0), none, none] [] M Q := wpn_sound (cuts := [(20, [true, true, true])]) ok50 14 0 _ _ _ h
-- ClayBoots$Reader.fieldRow, from 20
set_option maxRecDepth 100000 in
theorem w50_20 {X : Cx} {d : Nat} {M : Mem} {Q : Option Vl → Mem → Prop} {x1 x2 : Int32}
    (h : (6 < x2 → Q (some (vI x1)) M) ∧ (¬ 6 < x2 → ∃ (r1 : Int32) (M1 : Mem), CC X d 35 [vR 3 0] M (some (vI r1)) M1 ∧ (r1 = 0 → Q (some (vI x1)) M1) ∧ (¬ r1 = 0 → (¬ x2 = 6 → ∃ (r2 : Int32) (M2 : Mem), CC X d 39 [vR 3 0, vI 0, vI ((M1.1 20 0 5) - 1)] M1 (some (vI r2)) M2 ∧ V X (d + 1) 50 20 [some (vR 3 0), some (vI ((x1 * 10) + r2)), some (vI (x2 + 1))] [] M2 Q) ∧ (x2 = 6 → ((M1.1 20 0 5) ≤ (M1.1 3 0 10) → ∃ (r3 : Int32) (M3 : Mem), CC X d 39 [vR 3 0, vI 0, vI ((M1.1 20 0 5) - 1)] M1 (some (vI r3)) M3 ∧ V X (d + 1) 50 20 [some (vR 3 0), some (vI ((x1 * 10) + r3)), some (vI (x2 + 1))] [] M3 Q) ∧ (¬ (M1.1 20 0 5) ≤ (M1.1 3 0 10) → ∃ (M4 : Mem), CC X d 37 [vR 3 0, vI 3] M1 none M4 ∧ V X (d + 1) 50 20 [some (vR 3 0), some (vI x1), some (vI (x2 + 1))] [] M4 Q))))) :
    V X (d + 1) 50 20 [some (vR 3 0), some (vI x1), some (vI x2)] [] M Q := wpn_sound (cuts := [(20, [true, true, true])]) ok50 31 20 _ _ _ h
theorem e50 {X : Cx} {d : Nat} {M M2 : Mem} {r : Int32} (h : V X d 50 0 [some (vR 3 0), none, none] [] M (fun r' M' => r' = (some (vI r)) ∧ M' = M2)) : CC X d 50 [vR 3 0] M (some (vI r)) M2 := CC_of (by decide) trivial (Nat.le_of_ble_eq_true rfl) (by simp [c1]) h
-- ClayBoots$Reader.skyLine, from 0
set_option maxRecDepth 100000 in
theorem w51_0 {X : Cx} {d : Nat} {M : Mem} {Q : Option Vl → Mem → Prop} {p0 : Int32}
    (h : ∃ (r1 : Int32) (M1 : Mem), CC X d 34 [vR 3 0, vI 10017] M (some (vI r1)) M1 ∧ ∃ (M2 : Mem), CC X d 40 [vR 3 0, vI r1, vI p0] M1 none M2 ∧ ∃ (r2 : Int32) (M3 : Mem), CC X d 39 [vR 3 0, vI 0, vI 999] M2 (some (vI r2)) M3 ∧ ∃ (r3 : Int32) (M4 : Mem), CC X d 34 [vR 3 0, vI 10005] M3 (some (vI r3)) M4 ∧ (r3 = 0 → ∃ (r4 : Int32) (M5 : Mem), CC X d 34 [vR 3 0, vI 10006] M4 (some (vI r4)) M5 ∧ (r4 = 0 → ∃ (M6 : Mem), CC X d 38 [vR 3 0, vI 10021] M5 none M6 ∧ ∃ (M7 : Mem), CC X d 38 [vR 3 0, vI 20059] M6 none M7 ∧ (p0 < 0 → Q (none) M7) ∧ (¬ p0 < 0 → (16 ≤ p0 → Q (none) M7) ∧ (¬ 16 ≤ p0 → inb p0 16 ∧ ∀ M8, M8 = st M7 57 1 (ix p0) r2 → inb p0 16 ∧ ∀ M9, M9 = st M8 58 1 (ix p0) 11 → ∀ M10, M10 = st M9 50 1 1 (p0 + 1) → Q (none) M10))) ∧ (¬ r4 = 0 → ∃ (M11 : Mem), CC X d 36 [vR 3 0] M5 none M11 ∧ ∃ (M12 : Mem), CC X d 38 [vR 3 0, vI 20059] M11 none M12 ∧ (p0 < 0 → Q (none) M12) ∧ (¬ p0 < 0 → (16 ≤ p0 → Q (none) M12) ∧ (¬ 16 ≤ p0 → inb p0 16 ∧ ∀ M13, M13 = st M12 57 1 (ix p0) r2 → inb p0 16 ∧ ∀ M14, M14 = st M13 58 1 (ix p0) 10 → ∀ M15, M15 = st M14 50 1 1 (p0 + 1) → Q (none) M15)))) ∧ (¬ r3 = 0 → ∃ (M16 : Mem), CC X d 36 [vR 3 0] M4 none M16 ∧ ∃ (r5 : Int32) (M17 : Mem), CC X d 39 [vR 3 0, vI 0, vI 9] M16 (some (vI r5)) M17 ∧ ∃ (M18 : Mem), CC X d 38 [vR 3 0, vI 20059] M17 none M18 ∧ (p0 < 0 → Q (none) M18) ∧ (¬ p0 < 0 → (16 ≤ p0 → Q (none) M18) ∧ (¬ 16 ≤ p0 → inb p0 16 ∧ ∀ M19, M19 = st M18 57 1 (ix p0) r2 → inb p0 16 ∧ ∀ M20, M20 = st M19 58 1 (ix p0) r5 → ∀ M21, M21 = st M20 50 1 1 (p0 + 1) → Q (none) M21)))) :
    V X (d + 1) 51 0 [some (vR 3 0), some (vI p0), none, none] [] M Q := wpn_sound (cuts := []) ok51 54 0 _ _ _ h
theorem e51 {X : Cx} {d : Nat} {M M2 : Mem} {p0 : Int32} (h : V X d 51 0 [some (vR 3 0), some (vI p0), none, none] [] M (fun r' M' => r' = none ∧ M' = M2)) : CC X d 51 [vR 3 0, vI p0] M none M2 := CC_of (by decide) trivial (Nat.le_of_ble_eq_true rfl) (by simp [c1]) h
-- ClayBoots$Reader.wayLine, from 0
set_option maxRecDepth 100000 in
theorem w52_0 {X : Cx} {d : Nat} {M : Mem} {Q : Option Vl → Mem → Prop} {p0 : Int32}
    (h : ∃ (r1 : Int32) (M1 : Mem), CC X d 34 [vR 3 0, vI 10022] M (some (vI r1)) M1 ∧ ∃ (M2 : Mem), CC X d 40 [vR 3 0, vI r1, vI p0] M1 none M2 ∧ ∃ (r2 : Int32) (M3 : Mem), CC X d 39 [vR 3 0, vI 0, vI ((M2.1 20 0 6) - 1)] M2 (some (vI r2)) M3 ∧ ∃ (M4 : Mem), CC X d 38 [vR 3 0, vI 10022] M3 none M4 ∧ ∃ (r3 : Int32) (M5 : Mem), CC X d 34 [vR 3 0, vI r2] M4 (some (vI r3)) M5 ∧ (r3 = 0 → ∃ (r4 : Int32) (M6 : Mem), CC X d 39 [vR 3 0, vI 0, vI ((M5.1 20 0 6) - 1)] M5 (some (vI r4)) M6 ∧ ∃ (r5 : Int32) (M7 : Mem), CC X d 39 [vR 3 0, vI 1, vI 99] M6 (some (vI r5)) M7 ∧ ∃ (M8 : Mem), CC X d 38 [vR 3 0, vI 20059] M7 none M8 ∧ (¬ (M8.1 3 0 13) = 0 → Q (none) M8) ∧ ((M8.1 3 0 13) = 0 → ∃ (M9 : Mem), CC X d 17 [vR 50 1, vI r2, vI r4, vI r5] M8 none M9 ∧ ∀ M10, M10 = st M9 50 1 2 (p0 + 1) → Q (none) M10)) ∧ (¬ r3 = 0 → ∃ (M11 : Mem), CC X d 37 [vR 3 0, vI 2] M5 none M11 ∧ ∃ (r6 : Int32) (M12 : Mem), CC X d 39 [vR 3 0, vI 0, vI ((M11.1 20 0 6) - 1)] M11 (some (vI r6)) M12 ∧ ∃ (r7 : Int32) (M13 : Mem), CC X d 39 [vR 3 0, vI 1, vI 99] M12 (some (vI r7)) M13 ∧ ∃ (M14 : Mem), CC X d 38 [vR 3 0, vI 20059] M13 none M14 ∧ (¬ (M14.1 3 0 13) = 0 → Q (none) M14) ∧ ((M14.1 3 0 13) = 0 → ∃ (M15 : Mem), CC X d 17 [vR 50 1, vI r2, vI r6, vI r7] M14 none M15 ∧ ∀ M16, M16 = st M15 50 1 2 (p0 + 1) → Q (none) M16))) :
    V X (d + 1) 52 0 [some (vR 3 0), some (vI p0), none, none, none] [] M Q := wpn_sound (cuts := []) ok52 59 0 _ _ _ h
theorem e52 {X : Cx} {d : Nat} {M M2 : Mem} {p0 : Int32} (h : V X d 52 0 [some (vR 3 0), some (vI p0), none, none, none] [] M (fun r' M' => r' = none ∧ M' = M2)) : CC X d 52 [vR 3 0, vI p0] M none M2 := CC_of (by decide) trivial (Nat.le_of_ble_eq_true rfl) (by simp [c1]) h
-- ClayBoots$Shire.become, from 0
set_option maxRecDepth 100000 in
theorem w53_0 {X : Cx} {d : Nat} {M : Mem} {Q : Option Vl → Mem → Prop} {a b : Nat}
    (h : ∃ (M1 : Mem), CC X d 54 [vR 20 a, vR 20 b] M none M1 ∧ ∃ (M2 : Mem), CC X d 1 [vR 30 a, vR 30 b] M1 none M2 ∧ Q (none) M2) :
    V X (d + 1) 53 0 [some (vR 20 a), some (vR 20 b)] [] M Q := wpn_sound (cuts := []) ok53 10 0 _ _ _ h
theorem e53 {X : Cx} {d : Nat} {M M2 : Mem} {a b : Nat} (h : V X d 53 0 [some (vR 20 a), some (vR 20 b)] [] M (fun r' M' => r' = none ∧ M' = M2)) : CC X d 53 [vR 20 a, vR 20 b] M none M2 := CC_of (by decide) trivial (Nat.le_of_ble_eq_true rfl) (by simp [c1]) h
-- ClayBoots$Shire.becomeLand, from 0
set_option maxRecDepth 100000 in
theorem w54_0 {X : Cx} {d : Nat} {M : Mem} {Q : Option Vl → Mem → Prop} {a b : Nat}
    (h : ∀ M1, M1 = st M 20 a 0 (M.1 20 b 0) → ∀ M2, M2 = st M1 20 a 1 (M1.1 20 b 1) → ∀ M3, M3 = st M2 20 a 2 (M2.1 20 b 2) → ∀ M4, M4 = st M3 20 a 3 (M3.1 20 b 3) → ∀ M5, M5 = st M4 20 a 4 (M4.1 20 b 4) → ∀ M6, M6 = st M5 20 a 5 (M5.1 20 b 5) → ∀ M7, M7 = st M6 20 a 6 (M6.1 20 b 6) → ∀ M8, M8 = st M7 20 a 7 (M7.1 20 b 7) → ¬ (0 : Int32) < 0 ∧ ¬ (0 : Int32) < 0 ∧ ¬ (10 : Int32) < 0 ∧ ix 0 + ix 10 ≤ 10 ∧ ix 0 + ix 10 ≤ 10 ∧ ∀ M9, M9 = cpy M8 21 b 21 a (ix 0) (ix 0) (ix 10) → ¬ (0 : Int32) < 0 ∧ ¬ (0 : Int32) < 0 ∧ ¬ (10 : Int32) < 0 ∧ ix 0 + ix 10 ≤ 10 ∧ ix 0 + ix 10 ≤ 10 ∧ ∀ M10, M10 = cpy M9 22 b 22 a (ix 0) (ix 0) (ix 10) → ¬ (0 : Int32) < 0 ∧ ¬ (0 : Int32) < 0 ∧ ¬ (8 : Int32) < 0 ∧ ix 0 + ix 8 ≤ 8 ∧ ix 0 + ix 8 ≤ 8 ∧ ∀ M11, M11 = cpy M10 23 b 23 a (ix 0) (ix 0) (ix 8) → ¬ (0 : Int32) < 0 ∧ ¬ (0 : Int32) < 0 ∧ ¬ (80 : Int32) < 0 ∧ ix 0 + ix 80 ≤ 80 ∧ ix 0 + ix 80 ≤ 80 ∧ ∀ M12, M12 = cpy M11 24 b 24 a (ix 0) (ix 0) (ix 80) → ¬ (0 : Int32) < 0 ∧ ¬ (0 : Int32) < 0 ∧ ¬ (12 : Int32) < 0 ∧ ix 0 + ix 12 ≤ 12 ∧ ix 0 + ix 12 ≤ 12 ∧ ∀ M13, M13 = cpy M12 25 b 25 a (ix 0) (ix 0) (ix 12) → ¬ (0 : Int32) < 0 ∧ ¬ (0 : Int32) < 0 ∧ ¬ (12 : Int32) < 0 ∧ ix 0 + ix 12 ≤ 12 ∧ ix 0 + ix 12 ≤ 12 ∧ ∀ M14, M14 = cpy M13 26 b 26 a (ix 0) (ix 0) (ix 12) → ¬ (0 : Int32) < 0 ∧ ¬ (0 : Int32) < 0 ∧ ¬ (12 : Int32) < 0 ∧ ix 0 + ix 12 ≤ 12 ∧ ix 0 + ix 12 ≤ 12 ∧ ∀ M15, M15 = cpy M14 27 b 27 a (ix 0) (ix 0) (ix 12) → ¬ (0 : Int32) < 0 ∧ ¬ (0 : Int32) < 0 ∧ ¬ (12 : Int32) < 0 ∧ ix 0 + ix 12 ≤ 12 ∧ ix 0 + ix 12 ≤ 12 ∧ ∀ M16, M16 = cpy M15 28 b 28 a (ix 0) (ix 0) (ix 12) → ¬ (0 : Int32) < 0 ∧ ¬ (0 : Int32) < 0 ∧ ¬ (120 : Int32) < 0 ∧ ix 0 + ix 120 ≤ 120 ∧ ix 0 + ix 120 ≤ 120 ∧ ∀ M17, M17 = cpy M16 29 b 29 a (ix 0) (ix 0) (ix 120) → Q (none) M17) :
    V X (d + 1) 54 0 [some (vR 20 a), some (vR 20 b)] [] M Q := wpn_sound (cuts := []) ok54 106 0 _ _ _ h
theorem e54 {X : Cx} {d : Nat} {M M2 : Mem} {a b : Nat} (h : V X d 54 0 [some (vR 20 a), some (vR 20 b)] [] M (fun r' M' => r' = none ∧ M' = M2)) : CC X d 54 [vR 20 a, vR 20 b] M none M2 := CC_of (by decide) trivial (Nat.le_of_ble_eq_true rfl) (by simp [c1]) h
-- ClayBoots$Shire.hasField, from 0
set_option maxRecDepth 100000 in
theorem w55_0 {X : Cx} {d : Nat} {M : Mem} {Q : Option Vl → Mem → Prop} {a : Nat} {p0 : Int32}
    (h : (p0 < 0 → isB 0 ∧ Q (some (vI 0)) M) ∧ (¬ p0 < 0 → ((M.1 20 a 5) ≤ p0 → isB 0 ∧ Q (some (vI 0)) M) ∧ (¬ (M.1 20 a 5) ≤ p0 → (10 ≤ p0 → isB 0 ∧ Q (some (vI 0)) M) ∧ (¬ 10 ≤ p0 → isB 1 ∧ Q (some (vI 1)) M)))) :
    V X (d + 1) 55 0 [some (vR 20 a), some (vI p0)] [] M Q := wpn_sound (cuts := []) ok55 13 0 _ _ _ h
theorem e55 {X : Cx} {d : Nat} {M M2 : Mem} {a : Nat} {p0 : Int32} {r : Int32} (h : V X d 55 0 [some (vR 20 a), some (vI p0)] [] M (fun r' M' => r' = (some (vI r)) ∧ M' = M2)) : CC X d 55 [vR 20 a, vI p0] M (some (vI r)) M2 := CC_of (by decide) trivial (Nat.le_of_ble_eq_true rfl) (by simp [c1]) h
-- ClayBoots$Shire.hasDoor, from 0
set_option maxRecDepth 100000 in
theorem w56_0 {X : Cx} {d : Nat} {M : Mem} {Q : Option Vl → Mem → Prop} {a : Nat} {p0 : Int32}
    (h : (p0 < 0 → isB 0 ∧ Q (some (vI 0)) M) ∧ (¬ p0 < 0 → ((M.1 20 a 6) ≤ p0 → isB 0 ∧ Q (some (vI 0)) M) ∧ (¬ (M.1 20 a 6) ≤ p0 → (8 ≤ p0 → isB 0 ∧ Q (some (vI 0)) M) ∧ (¬ 8 ≤ p0 → isB 1 ∧ Q (some (vI 1)) M)))) :
    V X (d + 1) 56 0 [some (vR 20 a), some (vI p0)] [] M Q := wpn_sound (cuts := []) ok56 13 0 _ _ _ h
theorem e56 {X : Cx} {d : Nat} {M M2 : Mem} {a : Nat} {p0 : Int32} {r : Int32} (h : V X d 56 0 [some (vR 20 a), some (vI p0)] [] M (fun r' M' => r' = (some (vI r)) ∧ M' = M2)) : CC X d 56 [vR 20 a, vI p0] M (some (vI r)) M2 := CC_of (by decide) trivial (Nat.le_of_ble_eq_true rfl) (by simp [c1]) h
-- ClayBoots$Shire.hasPerson, from 0
set_option maxRecDepth 100000 in
theorem w57_0 {X : Cx} {d : Nat} {M : Mem} {Q : Option Vl → Mem → Prop} {a : Nat} {p0 : Int32}
    (h : (p0 < 0 → isB 0 ∧ Q (some (vI 0)) M) ∧ (¬ p0 < 0 → ((M.1 20 a 7) ≤ p0 → isB 0 ∧ Q (some (vI 0)) M) ∧ (¬ (M.1 20 a 7) ≤ p0 → (12 ≤ p0 → isB 0 ∧ Q (some (vI 0)) M) ∧ (¬ 12 ≤ p0 → isB 1 ∧ Q (some (vI 1)) M)))) :
    V X (d + 1) 57 0 [some (vR 20 a), some (vI p0)] [] M Q := wpn_sound (cuts := []) ok57 13 0 _ _ _ h
theorem e57 {X : Cx} {d : Nat} {M M2 : Mem} {a : Nat} {p0 : Int32} {r : Int32} (h : V X d 57 0 [some (vR 20 a), some (vI p0)] [] M (fun r' M' => r' = (some (vI r)) ∧ M' = M2)) : CC X d 57 [vR 20 a, vI p0] M (some (vI r)) M2 := CC_of (by decide) trivial (Nat.le_of_ble_eq_true rfl) (by simp [c1]) h
-- ClayBoots$Shire.hasAll, from 0
set_option maxRecDepth 100000 in
theorem w58_0 {X : Cx} {d : Nat} {M : Mem} {Q : Option Vl → Mem → Prop} {a : Nat} {p0 p1 p2 : Int32}
    (h : ∃ (r1 : Int32) (M1 : Mem), CC X d 57 [vR 20 a, vI p0] M (some (vI r1)) M1 ∧ (r1 = 0 → isB 0 ∧ Q (some (vI 0)) M1) ∧ (¬ r1 = 0 → ∃ (r2 : Int32) (M2 : Mem), CC X d 55 [vR 20 a, vI p1] M1 (some (vI r2)) M2 ∧ (r2 = 0 → isB 0 ∧ Q (some (vI 0)) M2) ∧ (¬ r2 = 0 → ∃ (r3 : Int32) (M3 : Mem), CC X d 56 [vR 20 a, vI p2] M2 (some (vI r3)) M3 ∧ (r3 = 0 → isB 0 ∧ Q (some (vI 0)) M3) ∧ (¬ r3 = 0 → isB 1 ∧ Q (some (vI 1)) M3)))) :
    V X (d + 1) 58 0 [some (vR 20 a), some (vI p0), some (vI p1), some (vI p2)] [] M Q := wpn_sound (cuts := []) ok58 16 0 _ _ _ h
theorem e58 {X : Cx} {d : Nat} {M M2 : Mem} {a : Nat} {p0 p1 p2 : Int32} {r : Int32} (h : V X d 58 0 [some (vR 20 a), some (vI p0), some (vI p1), some (vI p2)] [] M (fun r' M' => r' = (some (vI r)) ∧ M' = M2)) : CC X d 58 [vR 20 a, vI p0, vI p1, vI p2] M (some (vI r)) M2 := CC_of (by decide) trivial (Nat.le_of_ble_eq_true rfl) (by simp [c1]) h
-- ClayBoots$Shire.hasRow, from 0
set_option maxRecDepth 100000 in
theorem w59_0 {X : Cx} {d : Nat} {M : Mem} {Q : Option Vl → Mem → Prop} {a : Nat} {p0 : Int32}
    (h : ∃ (r1 : Int32) (M1 : Mem), CC X d 149 [vI p0] M (some (vI r1)) M1 ∧ ¬ (10 : Int32) = 0 ∧ (¬ (r1 / 10) = 0 → V X (d + 1) 59 14 [some (vR 20 a), some (vI p0), some (vI (r1 / 10))] [] M1 Q) ∧ ((r1 / 10) = 0 → isB 0 ∧ Q (some (vI 0)) M1)) :
    V X (d + 1) 59 0 [some (vR 20 a), some (vI p0), none] [] M Q := wpn_sound (cuts := [(14, [true, true, true])]) ok59 10 0 _ _ _ h
-- ClayBoots$Shire.hasRow, from 14
set_option maxRecDepth 100000 in
theorem w59_14 {X : Cx} {d : Nat} {M : Mem} {Q : Option Vl → Mem → Prop} {a : Nat} {x1 x2 : Int32}
    (h : (x2 ≤ 0 → isB 1 ∧ Q (some (vI 1)) M) ∧ (¬ x2 ≤ 0 → ¬ x2 = 0 ∧ ¬ (10 : Int32) = 0 ∧ ∃ (r1 : Int32) (M1 : Mem), CC X d 55 [vR 20 a, vI ((x1 / x2) % 10)] M (some (vI r1)) M1 ∧ (¬ r1 = 0 → ¬ (10 : Int32) = 0 ∧ V X (d + 1) 59 14 [some (vR 20 a), some (vI x1), some (vI (x2 / 10))] [] M1 Q) ∧ (r1 = 0 → isB 0 ∧ Q (some (vI 0)) M1))) :
    V X (d + 1) 59 14 [some (vR 20 a), some (vI x1), some (vI x2)] [] M Q := wpn_sound (cuts := [(14, [true, true, true])]) ok59 16 14 _ _ _ h
theorem e59 {X : Cx} {d : Nat} {M M2 : Mem} {a : Nat} {p0 : Int32} {r : Int32} (h : V X d 59 0 [some (vR 20 a), some (vI p0), none] [] M (fun r' M' => r' = (some (vI r)) ∧ M' = M2)) : CC X d 59 [vR 20 a, vI p0] M (some (vI r)) M2 := CC_of (by decide) trivial (Nat.le_of_ble_eq_true rfl) (by simp [c1]) h
-- ClayBoots$Shire.addField, from 0
set_option maxRecDepth 100000 in
theorem w60_0 {X : Cx} {d : Nat} {M : Mem} {Q : Option Vl → Mem → Prop} {a : Nat} {p0 p1 : Int32}
    (h : ((M.1 20 a 5) < 10 → inb (M.1 20 a 5) 10 ∧ ∀ M1, M1 = st M 21 a (ix (M.1 20 a 5)) p0 → inb (M1.1 20 a 5) 10 ∧ ∀ M2, M2 = st M1 22 a (ix (M1.1 20 a 5)) p1 → ∀ M3, M3 = st M2 20 a 5 ((M2.1 20 a 5) + 1) → Q (some (vI ((M3.1 20 a 5) - 1))) M3) ∧ (¬ (M.1 20 a 5) < 10 → Q (some (vI (-1))) M)) :
    V X (d + 1) 60 0 [some (vR 20 a), some (vI p0), some (vI p1)] [] M Q := wpn_sound (cuts := []) ok60 28 0 _ _ _ h
theorem e60 {X : Cx} {d : Nat} {M M2 : Mem} {a : Nat} {p0 p1 : Int32} {r : Int32} (h : V X d 60 0 [some (vR 20 a), some (vI p0), some (vI p1)] [] M (fun r' M' => r' = (some (vI r)) ∧ M' = M2)) : CC X d 60 [vR 20 a, vI p0, vI p1] M (some (vI r)) M2 := CC_of (by decide) trivial (Nat.le_of_ble_eq_true rfl) (by simp [c1]) h
-- ClayBoots$Shire.addDoor, from 0
set_option maxRecDepth 100000 in
theorem w61_0 {X : Cx} {d : Nat} {M : Mem} {Q : Option Vl → Mem → Prop} {a : Nat} {p0 : Int32}
    (h : ((M.1 20 a 6) < 8 → (p0 = 0 → inb (M.1 20 a 6) 8 ∧ ∀ M1, M1 = st M 23 a (ix (M.1 20 a 6)) 0 → ∀ M2, M2 = st M1 20 a 6 ((M1.1 20 a 6) + 1) → Q (some (vI ((M2.1 20 a 6) - 1))) M2) ∧ (¬ p0 = 0 → inb (M.1 20 a 6) 8 ∧ ∀ M3, M3 = st M 23 a (ix (M.1 20 a 6)) 1 → ∀ M4, M4 = st M3 20 a 6 ((M3.1 20 a 6) + 1) → Q (some (vI ((M4.1 20 a 6) - 1))) M4)) ∧ (¬ (M.1 20 a 6) < 8 → Q (some (vI (-1))) M)) :
    V X (d + 1) 61 0 [some (vR 20 a), some (vI p0)] [] M Q := wpn_sound (cuts := []) ok61 25 0 _ _ _ h
theorem e61 {X : Cx} {d : Nat} {M M2 : Mem} {a : Nat} {p0 : Int32} {r : Int32} (h : V X d 61 0 [some (vR 20 a), some (vI p0)] [] M (fun r' M' => r' = (some (vI r)) ∧ M' = M2)) : CC X d 61 [vR 20 a, vI p0] M (some (vI r)) M2 := CC_of (by decide) trivial (Nat.le_of_ble_eq_true rfl) (by simp [c1]) h
-- ClayBoots$Shire.addPerson, from 0
set_option maxRecDepth 100000 in
theorem w62_0 {X : Cx} {d : Nat} {M : Mem} {Q : Option Vl → Mem → Prop} {a : Nat} {p0 p1 p2 : Int32}
    (h : ((M.1 20 a 7) < 12 → inb (M.1 20 a 7) 12 ∧ ∀ M1, M1 = st M 25 a (ix (M.1 20 a 7)) p0 → inb (M1.1 20 a 7) 12 ∧ ∀ M2, M2 = st M1 26 a (ix (M1.1 20 a 7)) p1 → inb (M2.1 20 a 7) 12 ∧ ∀ M3, M3 = st M2 27 a (ix (M2.1 20 a 7)) p2 → ∀ M4, M4 = st M3 20 a 7 ((M3.1 20 a 7) + 1) → Q (some (vI ((M4.1 20 a 7) - 1))) M4) ∧ (¬ (M.1 20 a 7) < 12 → Q (some (vI (-1))) M)) :
    V X (d + 1) 62 0 [some (vR 20 a), some (vI p0), some (vI p1), some (vI p2)] [] M Q := wpn_sound (cuts := []) ok62 34 0 _ _ _ h
theorem e62 {X : Cx} {d : Nat} {M M2 : Mem} {a : Nat} {p0 p1 p2 : Int32} {r : Int32} (h : V X d 62 0 [some (vR 20 a), some (vI p0), some (vI p1), some (vI p2)] [] M (fun r' M' => r' = (some (vI r)) ∧ M' = M2)) : CC X d 62 [vR 20 a, vI p0, vI p1, vI p2] M (some (vI r)) M2 := CC_of (by decide) trivial (Nat.le_of_ble_eq_true rfl) (by simp [c1]) h
-- ClayBoots$Shire.loadOf, from 0
set_option maxRecDepth 100000 in
theorem w63_0 {X : Cx} {d : Nat} {M : Mem} {Q : Option Vl → Mem → Prop} {a : Nat} {p0 : Int32}
    (h : ∃ (r1 : Int32) (M1 : Mem), CC X d 57 [vR 20 a, vI p0] M (some (vI r1)) M1 ∧ (r1 = 0 → Q (some (vI 0)) M1) ∧ (¬ r1 = 0 → V X (d + 1) 63 12 [some (vR 20 a), some (vI p0), some (vI 0), some (vI 0)] [] M1 Q)) :
    V X (d + 1) 63 0 [some (vR 20 a), some (vI p0), none, none] [] M Q := wpn_sound (cuts := [(12, [true, true, true, true])]) ok63 9 0 _ _ _ h
-- ClayBoots$Shire.loadOf, from 12
set_option maxRecDepth 100000 in
theorem w63_12 {X : Cx} {d : Nat} {M : Mem} {Q : Option Vl → Mem → Prop} {a : Nat} {x1 x2 x3 : Int32}
    (h : (10 ≤ x3 → Q (some (vI x2)) M) ∧ (¬ 10 ≤ x3 → inb ((x1 * 10) + x3) 120 ∧ V X (d + 1) 63 12 [some (vR 20 a), some (vI x1), some (vI (x2 + (M.1 29 a (ix ((x1 * 10) + x3))))), some (vI (x3 + 1))] [] M Q)) :
    V X (d + 1) 63 12 [some (vR 20 a), some (vI x1), some (vI x2), some (vI x3)] [] M Q := wpn_sound (cuts := [(12, [true, true, true, true])]) ok63 17 12 _ _ _ h
theorem e63 {X : Cx} {d : Nat} {M M2 : Mem} {a : Nat} {p0 : Int32} {r : Int32} (h : V X d 63 0 [some (vR 20 a), some (vI p0), none, none] [] M (fun r' M' => r' = (some (vI r)) ∧ M' = M2)) : CC X d 63 [vR 20 a, vI p0] M (some (vI r)) M2 := CC_of (by decide) trivial (Nat.le_of_ble_eq_true rfl) (by simp [c1]) h
-- ClayBoots$Shire.loadOfAll, from 0
set_option maxRecDepth 100000 in
theorem w64_0 {X : Cx} {d : Nat} {M : Mem} {Q : Option Vl → Mem → Prop} {a : Nat}
    (h : V X (d + 1) 64 4 [some (vR 20 a), some (vI 0), some (vI 0)] [] M Q) :
    V X (d + 1) 64 0 [some (vR 20 a), none, none] [] M Q := wpn_sound (cuts := [(4, [true, true, true])]) ok64 5 0 _ _ _ h
-- ClayBoots$Shire.loadOfAll, from 4
set_option maxRecDepth 100000 in
theorem w64_4 {X : Cx} {d : Nat} {M : Mem} {Q : Option Vl → Mem → Prop} {a : Nat} {x1 x2 : Int32}
    (h : ((M.1 20 a 7) ≤ x2 → Q (some (vI x1)) M) ∧ (¬ (M.1 20 a 7) ≤ x2 → ∃ (r1 : Int32) (M1 : Mem), CC X d 63 [vR 20 a, vI x2] M (some (vI r1)) M1 ∧ V X (d + 1) 64 4 [some (vR 20 a), some (vI (x1 + r1)), some (vI (x2 + 1))] [] M1 Q)) :
    V X (d + 1) 64 4 [some (vR 20 a), some (vI x1), some (vI x2)] [] M Q := wpn_sound (cuts := [(4, [true, true, true])]) ok64 13 4 _ _ _ h
theorem e64 {X : Cx} {d : Nat} {M M2 : Mem} {a : Nat} {r : Int32} (h : V X d 64 0 [some (vR 20 a), none, none] [] M (fun r' M' => r' = (some (vI r)) ∧ M' = M2)) : CC X d 64 [vR 20 a] M (some (vI r)) M2 := CC_of (by decide) trivial (Nat.le_of_ble_eq_true rfl) (by simp [c1]) h
-- ClayBoots$Shire.acresOf, from 0
set_option maxRecDepth 100000 in
theorem w65_0 {X : Cx} {d : Nat} {M : Mem} {Q : Option Vl → Mem → Prop} {a : Nat} {p0 : Int32}
    (h : ∃ (r1 : Int32) (M1 : Mem), CC X d 56 [vR 20 a, vI p0] M (some (vI r1)) M1 ∧ (r1 = 0 → Q (some (vI 0)) M1) ∧ (¬ r1 = 0 → V X (d + 1) 65 12 [some (vR 20 a), some (vI p0), some (vI 0), some (vI 0)] [] M1 Q)) :
    V X (d + 1) 65 0 [some (vR 20 a), some (vI p0), none, none] [] M Q := wpn_sound (cuts := [(12, [true, true, true, true])]) ok65 9 0 _ _ _ h
-- ClayBoots$Shire.acresOf, from 12
set_option maxRecDepth 100000 in
theorem w65_12 {X : Cx} {d : Nat} {M : Mem} {Q : Option Vl → Mem → Prop} {a : Nat} {x1 x2 x3 : Int32}
    (h : (10 ≤ x3 → Q (some (vI x2)) M) ∧ (¬ 10 ≤ x3 → inb ((x1 * 10) + x3) 80 ∧ V X (d + 1) 65 12 [some (vR 20 a), some (vI x1), some (vI (x2 + (M.1 24 a (ix ((x1 * 10) + x3))))), some (vI (x3 + 1))] [] M Q)) :
    V X (d + 1) 65 12 [some (vR 20 a), some (vI x1), some (vI x2), some (vI x3)] [] M Q := wpn_sound (cuts := [(12, [true, true, true, true])]) ok65 17 12 _ _ _ h
theorem e65 {X : Cx} {d : Nat} {M M2 : Mem} {a : Nat} {p0 : Int32} {r : Int32} (h : V X d 65 0 [some (vR 20 a), some (vI p0), none, none] [] M (fun r' M' => r' = (some (vI r)) ∧ M' = M2)) : CC X d 65 [vR 20 a, vI p0] M (some (vI r)) M2 := CC_of (by decide) trivial (Nat.le_of_ble_eq_true rfl) (by simp [c1]) h
-- ClayBoots$Shire.holderOf, from 0
set_option maxRecDepth 100000 in
theorem w66_0 {X : Cx} {d : Nat} {M : Mem} {Q : Option Vl → Mem → Prop} {a : Nat} {p0 : Int32}
    (h : V X (d + 1) 66 7 [some (vR 20 a), some (vI p0), some (vI (-1)), some (vI 0), some (vI 0)] [] M Q) :
    V X (d + 1) 66 0 [some (vR 20 a), some (vI p0), none, none, none] [] M Q := wpn_sound (cuts := [(7, [true, true, true, true, true])]) ok66 7 0 _ _ _ h
-- ClayBoots$Shire.holderOf, from 7
set_option maxRecDepth 100000 in
theorem w66_7 {X : Cx} {d : Nat} {M : Mem} {Q : Option Vl → Mem → Prop} {a : Nat} {x1 x2 x3 x4 : Int32}
    (h : ((M.1 20 a 6) ≤ x4 → Q (some (vI x2)) M) ∧ (¬ (M.1 20 a 6) ≤ x4 → ∃ (r1 : Int32) (M1 : Mem), CC X d 56 [vR 20 a, vI x4] M (some (vI r1)) M1 ∧ (r1 = 0 → Q (some (vI x2)) M1) ∧ (¬ r1 = 0 → ∃ (r2 : Int32) (M2 : Mem), CC X d 55 [vR 20 a, vI x1] M1 (some (vI r2)) M2 ∧ (r2 = 0 → Q (some (vI x2)) M2) ∧ (¬ r2 = 0 → inb ((x4 * 10) + x1) 80 ∧ ((M2.1 24 a (ix ((x4 * 10) + x1))) ≤ x3 → V X (d + 1) 66 7 [some (vR 20 a), some (vI x1), some (vI x2), some (vI x3), some (vI (x4 + 1))] [] M2 Q) ∧ (¬ (M2.1 24 a (ix ((x4 * 10) + x1))) ≤ x3 → inb ((x4 * 10) + x1) 80 ∧ V X (d + 1) 66 7 [some (vR 20 a), some (vI x1), some (vI x4), some (vI (M2.1 24 a (ix ((x4 * 10) + x1)))), some (vI (x4 + 1))] [] M2 Q))))) :
    V X (d + 1) 66 7 [some (vR 20 a), some (vI x1), some (vI x2), some (vI x3), some (vI x4)] [] M Q := wpn_sound (cuts := [(7, [true, true, true, true, true])]) ok66 36 7 _ _ _ h
theorem e66 {X : Cx} {d : Nat} {M M2 : Mem} {a : Nat} {p0 : Int32} {r : Int32} (h : V X d 66 0 [some (vR 20 a), some (vI p0), none, none, none] [] M (fun r' M' => r' = (some (vI r)) ∧ M' = M2)) : CC X d 66 [vR 20 a, vI p0] M (some (vI r)) M2 := CC_of (by decide) trivial (Nat.le_of_ble_eq_true rfl) (by simp [c1]) h
-- ClayBoots$Shire.countyOf, from 0
set_option maxRecDepth 100000 in
theorem w67_0 {X : Cx} {d : Nat} {M : Mem} {Q : Option Vl → Mem → Prop} {a : Nat} {p0 : Int32}
    (h : V X (d + 1) 67 4 [some (vR 20 a), some (vI p0), some (vI 0), some (vI 0)] [] M Q) :
    V X (d + 1) 67 0 [some (vR 20 a), some (vI p0), none, none] [] M Q := wpn_sound (cuts := [(4, [true, true, true, true])]) ok67 5 0 _ _ _ h
-- ClayBoots$Shire.countyOf, from 4
set_option maxRecDepth 100000 in
theorem w67_4 {X : Cx} {d : Nat} {M : Mem} {Q : Option Vl → Mem → Prop} {a : Nat} {x1 x2 x3 : Int32}
    (h : ((M.1 20 a 5) ≤ x3 → Q (some (vI x2)) M) ∧ (¬ (M.1 20 a 5) ≤ x3 → ∃ (r1 : Int32) (M1 : Mem), CC X d 66 [vR 20 a, vI x3] M (some (vI r1)) M1 ∧ (¬ r1 = x1 → V X (d + 1) 67 4 [some (vR 20 a), some (vI x1), some (vI x2), some (vI (x3 + 1))] [] M1 Q) ∧ (r1 = x1 → V X (d + 1) 67 4 [some (vR 20 a), some (vI x1), some (vI (x2 ||| (1 <<< (x3 &&& 31)))), some (vI (x3 + 1))] [] M1 Q))) :
    V X (d + 1) 67 4 [some (vR 20 a), some (vI x1), some (vI x2), some (vI x3)] [] M Q := wpn_sound (cuts := [(4, [true, true, true, true])]) ok67 18 4 _ _ _ h
theorem e67 {X : Cx} {d : Nat} {M M2 : Mem} {a : Nat} {p0 : Int32} {r : Int32} (h : V X d 67 0 [some (vR 20 a), some (vI p0), none, none] [] M (fun r' M' => r' = (some (vI r)) ∧ M' = M2)) : CC X d 67 [vR 20 a, vI p0] M (some (vI r)) M2 := CC_of (by decide) trivial (Nat.le_of_ble_eq_true rfl) (by simp [c1]) h
-- ClayBoots$Shire.heldFields, from 0
set_option maxRecDepth 100000 in
theorem w68_0 {X : Cx} {d : Nat} {M : Mem} {Q : Option Vl → Mem → Prop} {a : Nat}
    (h : V X (d + 1) 68 4 [some (vR 20 a), some (vI 0), some (vI 0)] [] M Q) :
    V X (d + 1) 68 0 [some (vR 20 a), none, none] [] M Q := wpn_sound (cuts := [(4, [true, true, true])]) ok68 5 0 _ _ _ h
-- ClayBoots$Shire.heldFields, from 4
set_option maxRecDepth 100000 in
theorem w68_4 {X : Cx} {d : Nat} {M : Mem} {Q : Option Vl → Mem → Prop} {a : Nat} {x1 x2 : Int32}
    (h : ((M.1 20 a 5) ≤ x2 → Q (some (vI x1)) M) ∧ (¬ (M.1 20 a 5) ≤ x2 → ∃ (r1 : Int32) (M1 : Mem), CC X d 66 [vR 20 a, vI x2] M (some (vI r1)) M1 ∧ (r1 = (-1) → V X (d + 1) 68 4 [some (vR 20 a), some (vI x1), some (vI (x2 + 1))] [] M1 Q) ∧ (¬ r1 = (-1) → V X (d + 1) 68 4 [some (vR 20 a), some (vI (x1 + 1)), some (vI (x2 + 1))] [] M1 Q))) :
    V X (d + 1) 68 4 [some (vR 20 a), some (vI x1), some (vI x2)] [] M Q := wpn_sound (cuts := [(4, [true, true, true])]) ok68 13 4 _ _ _ h
theorem e68 {X : Cx} {d : Nat} {M M2 : Mem} {a : Nat} {r : Int32} (h : V X d 68 0 [some (vR 20 a), none, none] [] M (fun r' M' => r' = (some (vI r)) ∧ M' = M2)) : CC X d 68 [vR 20 a] M (some (vI r)) M2 := CC_of (by decide) trivial (Nat.le_of_ble_eq_true rfl) (by simp [c1]) h
-- ClayBoots$Shire.stoneDoors, from 0
set_option maxRecDepth 100000 in
theorem w69_0 {X : Cx} {d : Nat} {M : Mem} {Q : Option Vl → Mem → Prop} {a : Nat}
    (h : V X (d + 1) 69 4 [some (vR 20 a), some (vI 0), some (vI 0)] [] M Q) :
    V X (d + 1) 69 0 [some (vR 20 a), none, none] [] M Q := wpn_sound (cuts := [(4, [true, true, true])]) ok69 5 0 _ _ _ h
-- ClayBoots$Shire.stoneDoors, from 4
set_option maxRecDepth 100000 in
theorem w69_4 {X : Cx} {d : Nat} {M : Mem} {Q : Option Vl → Mem → Prop} {a : Nat} {x1 x2 : Int32}
    (h : (8 ≤ x2 → Q (some (vI x1)) M) ∧ (¬ 8 ≤ x2 → inb x2 8 ∧ V X (d + 1) 69 4 [some (vR 20 a), some (vI (x1 ||| ((M.1 23 a (ix x2)) <<< (x2 &&& 31)))), some (vI (x2 + 1))] [] M Q)) :
    V X (d + 1) 69 4 [some (vR 20 a), some (vI x1), some (vI x2)] [] M Q := wpn_sound (cuts := [(4, [true, true, true])]) ok69 15 4 _ _ _ h
theorem e69 {X : Cx} {d : Nat} {M M2 : Mem} {a : Nat} {r : Int32} (h : V X d 69 0 [some (vR 20 a), none, none] [] M (fun r' M' => r' = (some (vI r)) ∧ M' = M2)) : CC X d 69 [vR 20 a] M (some (vI r)) M2 := CC_of (by decide) trivial (Nat.le_of_ble_eq_true rfl) (by simp [c1]) h
-- ClayBoots$Shire.returnLand, from 0
set_option maxRecDepth 100000 in
theorem w70_0 {X : Cx} {d : Nat} {M : Mem} {Q : Option Vl → Mem → Prop} {a : Nat} {p0 p1 : Int32}
    (h : ∃ (r1 : Int32) (M1 : Mem), CC X d 55 [vR 20 a, vI p0] M (some (vI r1)) M1 ∧ (r1 = 0 → Q (none) M1) ∧ (¬ r1 = 0 → inb p0 10 ∧ inb p0 10 ∧ ∀ M2, M2 = st M1 22 a (ix p0) (if ((M1.1 22 a (ix p0)) + p1) < 9999 then ((M1.1 22 a (ix p0)) + p1) else 9999) → Q (none) M2)) :
    V X (d + 1) 70 0 [some (vR 20 a), some (vI p0), some (vI p1)] [] M Q := wpn_sound (cuts := []) ok70 18 0 _ _ _ h
theorem e70 {X : Cx} {d : Nat} {M M2 : Mem} {a : Nat} {p0 p1 : Int32} (h : V X d 70 0 [some (vR 20 a), some (vI p0), some (vI p1)] [] M (fun r' M' => r' = none ∧ M' = M2)) : CC X d 70 [vR 20 a, vI p0, vI p1] M none M2 := CC_of (by decide) trivial (Nat.le_of_ble_eq_true rfl) (by simp [c1]) h
-- ClayBoots$Thoughts.become, from 0
set_option maxRecDepth 100000 in
theorem w71_0 {X : Cx} {d : Nat} {M : Mem} {Q : Option Vl → Mem → Prop} {a b : Nat}
    (h : ¬ (0 : Int32) < 0 ∧ ¬ (0 : Int32) < 0 ∧ ¬ (6 : Int32) < 0 ∧ ix 0 + ix 6 ≤ 6 ∧ ix 0 + ix 6 ≤ 6 ∧ ∀ M1, M1 = cpy M 71 b 71 a (ix 0) (ix 0) (ix 6) → ¬ (0 : Int32) < 0 ∧ ¬ (0 : Int32) < 0 ∧ ¬ (8 : Int32) < 0 ∧ ix 0 + ix 8 ≤ 8 ∧ ix 0 + ix 8 ≤ 8 ∧ ∀ M2, M2 = cpy M1 72 b 72 a (ix 0) (ix 0) (ix 8) → ∃ (M3 : Mem), CC X d 88 [vR 80 a, vR 80 b] M2 none M3 ∧ ∃ (M4 : Mem), CC X d 88 [vR 83 a, vR 83 b] M3 none M4 ∧ ∃ (M5 : Mem), CC X d 88 [vR 86 a, vR 86 b] M4 none M5 ∧ ∃ (M6 : Mem), CC X d 88 [vR 89 a, vR 89 b] M5 none M6 ∧ ∃ (M7 : Mem), CC X d 88 [vR 92 a, vR 92 b] M6 none M7 ∧ Q (none) M7) :
    V X (d + 1) 71 0 [some (vR 70 a), some (vR 70 b)] [] M Q := wpn_sound (cuts := []) ok71 43 0 _ _ _ h
theorem e71 {X : Cx} {d : Nat} {M M2 : Mem} {a b : Nat} (h : V X d 71 0 [some (vR 70 a), some (vR 70 b)] [] M (fun r' M' => r' = none ∧ M' = M2)) : CC X d 71 [vR 70 a, vR 70 b] M none M2 := CC_of (by decide) trivial (Nat.le_of_ble_eq_true rfl) (by simp [c1]) h
-- ClayBoots$Thoughts.waysToGive, from 0
set_option maxRecDepth 100000 in
theorem w72_0 {X : Cx} {d : Nat} {M : Mem} {Q : Option Vl → Mem → Prop} {a b : Nat} {p0 : Int32}
    (h : (p0 < 0 → Q (some (vI (-1))) M) ∧ (¬ p0 < 0 → (p0 < 6 → inb p0 6 ∧ V X (d + 1) 72 31 [some (vR 70 a), some (vI p0), some (vR 20 b), some (vI (if 0 < (if (M.1 71 a (ix p0)) < 30 then (M.1 71 a (ix p0)) else 30) then (if (M.1 71 a (ix p0)) < 30 then (M.1 71 a (ix p0)) else 30) else 0)), some (vI 0)] [] M Q) ∧ (¬ p0 < 6 → Q (some (vI (-1))) M))) :
    V X (d + 1) 72 0 [some (vR 70 a), some (vI p0), some (vR 20 b), none, none] [] M Q := wpn_sound (cuts := [(31, [true, true, true, true, true]), (63, [true, true, true, true, true])]) ok72 17 0 _ _ _ h
-- ClayBoots$Thoughts.waysToGive, from 31
set_option maxRecDepth 100000 in
theorem w72_31 {X : Cx} {d : Nat} {M : Mem} {Q : Option Vl → Mem → Prop} {a b : Nat} {x1 x3 x4 : Int32}
    (h : (x3 < x4 → V X (d + 1) 72 63 [some (vR 70 a), some (vI x1), some (vR 20 b), some (vI x3), some (vI 0)] [] M Q) ∧ (¬ x3 < x4 → (¬ x4 = 0 → inb x4 31 ∧ ∀ M1, M1 = st M 73 a (ix x4) 0 → V X (d + 1) 72 31 [some (vR 70 a), some (vI x1), some (vR 20 b), some (vI x3), some (vI (x4 + 1))] [] M1 Q) ∧ (x4 = 0 → inb x4 31 ∧ ∀ M2, M2 = st M 73 a (ix x4) 1 → V X (d + 1) 72 31 [some (vR 70 a), some (vI x1), some (vR 20 b), some (vI x3), some (vI (x4 + 1))] [] M2 Q))) :
    V X (d + 1) 72 31 [some (vR 70 a), some (vI x1), some (vR 20 b), some (vI x3), some (vI x4)] [] M Q := wpn_sound (cuts := [(31, [true, true, true, true, true]), (63, [true, true, true, true, true])]) ok72 14 31 _ _ _ h
-- ClayBoots$Thoughts.waysToGive, from 63
set_option maxRecDepth 100000 in
theorem w72_63 {X : Cx} {d : Nat} {M : Mem} {Q : Option Vl → Mem → Prop} {a b : Nat} {x1 x3 x4 : Int32}
    (h : ((M.1 20 b 5) ≤ x4 → inb x3 31 ∧ Q (some (vI (M.1 73 a (ix x3)))) M) ∧ (¬ (M.1 20 b 5) ≤ x4 → (10 ≤ x4 → inb x3 31 ∧ Q (some (vI (M.1 73 a (ix x3)))) M) ∧ (¬ 10 ≤ x4 → inb x4 10 ∧ (¬ (M.1 21 b (ix x4)) = x1 → V X (d + 1) 72 63 [some (vR 70 a), some (vI x1), some (vR 20 b), some (vI x3), some (vI (x4 + 1))] [] M Q) ∧ ((M.1 21 b (ix x4)) = x1 → inb x4 10 ∧ ∃ (M1 : Mem), CC X d 73 [vR 70 a, vI x3, vI (M.1 22 b (ix x4))] M none M1 ∧ V X (d + 1) 72 63 [some (vR 70 a), some (vI x1), some (vR 20 b), some (vI x3), some (vI (x4 + 1))] [] M1 Q)))) :
    V X (d + 1) 72 63 [some (vR 70 a), some (vI x1), some (vR 20 b), some (vI x3), some (vI x4)] [] M Q := wpn_sound (cuts := [(31, [true, true, true, true, true]), (63, [true, true, true, true, true])]) ok72 23 63 _ _ _ h
theorem e72 {X : Cx} {d : Nat} {M M2 : Mem} {a b : Nat} {p0 : Int32} {r : Int32} (h : V X d 72 0 [some (vR 70 a), some (vI p0), some (vR 20 b), none, none] [] M (fun r' M' => r' = (some (vI r)) ∧ M' = M2)) : CC X d 72 [vR 70 a, vI p0, vR 20 b] M (some (vI r)) M2 := CC_of (by decide) trivial (Nat.le_of_ble_eq_true rfl) (by simp [c1]) h
-- ClayBoots$Thoughts.giveOneMore, from 0
set_option maxRecDepth 100000 in
theorem w73_0 {X : Cx} {d : Nat} {M : Mem} {Q : Option Vl → Mem → Prop} {a : Nat} {p0 p1 : Int32}
    (h : V X (d + 1) 73 2 [some (vR 70 a), none, some (vI p1), some (vI p0), none, none, none] [] M Q) :
    V X (d + 1) 73 0 [some (vR 70 a), some (vI p0), some (vI p1), none, none, none, none] [] M Q := wpn_sound (cuts := [(2, [true, false, true, true, false, false, false]), (18, [true, false, true, true, true, false, true])]) ok73 3 0 _ _ _ h
-- ClayBoots$Thoughts.giveOneMore, from 2
set_option maxRecDepth 100000 in
theorem w73_2 {X : Cx} {d : Nat} {M : Mem} {Q : Option Vl → Mem → Prop} {a : Nat} {x2 x3 : Int32}
    (h : (x3 < 0 → Q (none) M) ∧ (¬ x3 < 0 → V X (d + 1) 73 18 [some (vR 70 a), none, some (vI x2), some (vI x3), some (vJ (Int64.ofNat 0)), none, some (vI (if 0 < (x3 - x2) then (x3 - x2) else 0))] [] M Q)) :
    V X (d + 1) 73 2 [some (vR 70 a), none, some (vI x2), some (vI x3), none, none, none] [] M Q := wpn_sound (cuts := [(2, [true, false, true, true, false, false, false]), (18, [true, false, true, true, true, false, true])]) ok73 11 2 _ _ _ h
-- ClayBoots$Thoughts.giveOneMore, from 18
set_option maxRecDepth 100000 in
theorem w73_18 {X : Cx} {d : Nat} {M : Mem} {Q : Option Vl → Mem → Prop} {a : Nat} {x2 x3 x6 : Int32} {x4 : Int64}
    (h : (x3 < x6 → ¬ (Int64.ofNat 1000000007) = 0 ∧ inb x3 31 ∧ ∀ M1, M1 = st M 73 a (ix x3) (Int64.toInt32 (x4 % (Int64.ofNat 1000000007))) → V X (d + 1) 73 2 [some (vR 70 a), none, some (vI x2), some (vI (x3 + (-1))), none, none, none] [] M1 Q) ∧ (¬ x3 < x6 → inb x6 31 ∧ V X (d + 1) 73 18 [some (vR 70 a), none, some (vI x2), some (vI x3), some (vJ (x4 + (Int32.toInt64 (M.1 73 a (ix x6))))), none, some (vI (x6 + 1))] [] M Q)) :
    V X (d + 1) 73 18 [some (vR 70 a), none, some (vI x2), some (vI x3), some (vJ x4), none, some (vI x6)] [] M Q := wpn_sound (cuts := [(2, [true, false, true, true, false, false, false]), (18, [true, false, true, true, true, false, true])]) ok73 14 18 _ _ _ h
theorem e73 {X : Cx} {d : Nat} {M M2 : Mem} {a : Nat} {p0 p1 : Int32} (h : V X d 73 0 [some (vR 70 a), some (vI p0), some (vI p1), none, none, none, none] [] M (fun r' M' => r' = none ∧ M' = M2)) : CC X d 73 [vR 70 a, vI p0, vI p1] M none M2 := CC_of (by decide) trivial (Nat.le_of_ble_eq_true rfl) (by simp [c1]) h
-- ClayBoots$Thoughts.putBack, from 0
set_option maxRecDepth 100000 in
theorem w74_0 {X : Cx} {d : Nat} {M : Mem} {Q : Option Vl → Mem → Prop} {a : Nat} {p0 : Int32}
    (h : V X (d + 1) 74 4 [some (vR 70 a), some (vI p0), some (vI 0), some (vI 0), none, none, none] [] M Q) :
    V X (d + 1) 74 0 [some (vR 70 a), some (vI p0), none, none, none, none, none] [] M Q := wpn_sound (cuts := [(4, [true, true, true, true, false, false, false]), (44, [true, true, false, true, true, true, false])]) ok74 5 0 _ _ _ h
-- ClayBoots$Thoughts.putBack, from 4
set_option maxRecDepth 100000 in
theorem w74_4 {X : Cx} {d : Nat} {M : Mem} {Q : Option Vl → Mem → Prop} {a : Nat} {x1 x2 x3 : Int32}
    (h : (8 ≤ x3 → (x2 = 255 → V X (d + 1) 74 44 [some (vR 70 a), some (vI x1), none, some (vI 0), some (vI 0), some (vI 0), none] [] M Q) ∧ (¬ x2 = 255 → Q (some (vI (-1))) M)) ∧ (¬ 8 ≤ x3 → inb x3 8 ∧ V X (d + 1) 74 4 [some (vR 70 a), some (vI x1), some (vI (x2 ||| (1 <<< ((M.1 72 a (ix x3)) &&& 31)))), some (vI (x3 + 1)), none, none, none] [] M Q)) :
    V X (d + 1) 74 4 [some (vR 70 a), some (vI x1), some (vI x2), some (vI x3), none, none, none] [] M Q := wpn_sound (cuts := [(4, [true, true, true, true, false, false, false]), (44, [true, true, false, true, true, true, false])]) ok74 15 4 _ _ _ h
-- ClayBoots$Thoughts.putBack, from 44
set_option maxRecDepth 100000 in
theorem w74_44 {X : Cx} {d : Nat} {M : Mem} {Q : Option Vl → Mem → Prop} {a : Nat} {x1 x3 x4 x5 : Int32}
    (h : (8 ≤ x5 → (x1 = 0 → Q (some (vI x4)) M) ∧ (¬ x1 = 0 → Q (some (vI x3)) M)) ∧ (¬ 8 ≤ x5 → ∃ (r1 : Int32) (M1 : Mem), CC X d 75 [vR 70 a, vI x5] M (some (vI r1)) M1 ∧ (r1 ≤ 0 → V X (d + 1) 74 44 [some (vR 70 a), some (vI x1), none, some (vI x3), some (vI x4), some (vI (x5 + 1)), none] [] M1 Q) ∧ (¬ r1 ≤ 0 → V X (d + 1) 74 44 [some (vR 70 a), some (vI x1), none, some (vI (x3 + r1)), some (vI (x4 + 1)), some (vI (x5 + 1)), none] [] M1 Q))) :
    V X (d + 1) 74 44 [some (vR 70 a), some (vI x1), none, some (vI x3), some (vI x4), some (vI x5), none] [] M Q := wpn_sound (cuts := [(4, [true, true, true, true, false, false, false]), (44, [true, true, false, true, true, true, false])]) ok74 17 44 _ _ _ h
theorem e74 {X : Cx} {d : Nat} {M M2 : Mem} {a : Nat} {p0 : Int32} {r : Int32} (h : V X d 74 0 [some (vR 70 a), some (vI p0), none, none, none, none, none] [] M (fun r' M' => r' = (some (vI r)) ∧ M' = M2)) : CC X d 74 [vR 70 a, vI p0] M (some (vI r)) M2 := CC_of (by decide) trivial (Nat.le_of_ble_eq_true rfl) (by simp [c1]) h
-- ClayBoots$Thoughts.ringFrom, from 0
set_option maxRecDepth 100000 in
theorem w75_0 {X : Cx} {d : Nat} {M : Mem} {Q : Option Vl → Mem → Prop} {a : Nat} {p0 : Int32}
    (h : inb p0 8 ∧ V X (d + 1) 75 12 [some (vR 70 a), some (vI p0), some (vI 0), some (vI (M.1 72 a (ix p0))), some (vI 0)] [] M Q) :
    V X (d + 1) 75 0 [some (vR 70 a), some (vI p0), none, none, none] [] M Q := wpn_sound (cuts := [(12, [true, true, true, true, true])]) ok75 10 0 _ _ _ h
-- ClayBoots$Thoughts.ringFrom, from 12
set_option maxRecDepth 100000 in
theorem w75_12 {X : Cx} {d : Nat} {M : Mem} {Q : Option Vl → Mem → Prop} {a : Nat} {x1 x2 x3 x4 : Int32}
    (h : (8 ≤ x4 → (¬ x3 = x1 → Q (some (vI 0)) M) ∧ (x3 = x1 → Q (some (vI x2)) M)) ∧ (¬ 8 ≤ x4 → (x3 ≤ x1 → (¬ x3 = x1 → Q (some (vI 0)) M) ∧ (x3 = x1 → Q (some (vI x2)) M)) ∧ (¬ x3 ≤ x1 → (8 ≤ x3 → (¬ x3 = x1 → Q (some (vI 0)) M) ∧ (x3 = x1 → Q (some (vI x2)) M)) ∧ (¬ 8 ≤ x3 → inb x3 8 ∧ V X (d + 1) 75 12 [some (vR 70 a), some (vI x1), some (vI (x2 + 1)), some (vI (M.1 72 a (ix x3))), some (vI (x4 + 1))] [] M Q)))) :
    V X (d + 1) 75 12 [some (vR 70 a), some (vI x1), some (vI x2), some (vI x3), some (vI x4)] [] M Q := wpn_sound (cuts := [(12, [true, true, true, true, true])]) ok75 18 12 _ _ _ h
theorem e75 {X : Cx} {d : Nat} {M M2 : Mem} {a : Nat} {p0 : Int32} {r : Int32} (h : V X d 75 0 [some (vR 70 a), some (vI p0), none, none, none] [] M (fun r' M' => r' = (some (vI r)) ∧ M' = M2)) : CC X d 75 [vR 70 a, vI p0] M (some (vI r)) M2 := CC_of (by decide) trivial (Nat.le_of_ble_eq_true rfl) (by simp [c1]) h
-- ClayBoots$Thoughts.nearestWear, from 0
set_option maxRecDepth 100000 in
theorem w76_0 {X : Cx} {d : Nat} {M : Mem} {Q : Option Vl → Mem → Prop} {a : Nat} {p0 p1 : Int32}
    (h : V X (d + 1) 76 9 [some (vR 70 a), some (vI p0), some (vI p1), some (vI (-1)), some (vI 1000000), some (vI 0), none] [] M Q) :
    V X (d + 1) 76 0 [some (vR 70 a), some (vI p0), some (vI p1), none, none, none, none] [] M Q := wpn_sound (cuts := [(9, [true, true, true, true, true, true, false])]) ok76 7 0 _ _ _ h
-- ClayBoots$Thoughts.nearestWear, from 9
set_option maxRecDepth 100000 in
theorem w76_9 {X : Cx} {d : Nat} {M : Mem} {Q : Option Vl → Mem → Prop} {a : Nat} {x1 x2 x3 x4 x5 : Int32}
    (h : ((M.1 80 a 0) ≤ x5 → Q (some (vI x3)) M) ∧ (¬ (M.1 80 a 0) ≤ x5 → (10 ≤ x5 → Q (some (vI x3)) M) ∧ (¬ 10 ≤ x5 → inb x5 10 ∧ inb x5 10 ∧ (x4 ≤ ((if 0 ≤ ((M.1 81 a (ix x5)) - x1) then ((M.1 81 a (ix x5)) - x1) else 0 - ((M.1 81 a (ix x5)) - x1)) + (if 0 ≤ ((M.1 82 a (ix x5)) - x2) then ((M.1 82 a (ix x5)) - x2) else 0 - ((M.1 82 a (ix x5)) - x2))) → V X (d + 1) 76 9 [some (vR 70 a), some (vI x1), some (vI x2), some (vI x3), some (vI x4), some (vI (x5 + 1)), none] [] M Q) ∧ (¬ x4 ≤ ((if 0 ≤ ((M.1 81 a (ix x5)) - x1) then ((M.1 81 a (ix x5)) - x1) else 0 - ((M.1 81 a (ix x5)) - x1)) + (if 0 ≤ ((M.1 82 a (ix x5)) - x2) then ((M.1 82 a (ix x5)) - x2) else 0 - ((M.1 82 a (ix x5)) - x2))) → V X (d + 1) 76 9 [some (vR 70 a), some (vI x1), some (vI x2), some (vI x5), some (vI ((if 0 ≤ ((M.1 81 a (ix x5)) - x1) then ((M.1 81 a (ix x5)) - x1) else 0 - ((M.1 81 a (ix x5)) - x1)) + (if 0 ≤ ((M.1 82 a (ix x5)) - x2) then ((M.1 82 a (ix x5)) - x2) else 0 - ((M.1 82 a (ix x5)) - x2)))), some (vI (x5 + 1)), none] [] M Q)))) :
    V X (d + 1) 76 9 [some (vR 70 a), some (vI x1), some (vI x2), some (vI x3), some (vI x4), some (vI x5), none] [] M Q := wpn_sound (cuts := [(9, [true, true, true, true, true, true, false])]) ok76 36 9 _ _ _ h
theorem e76 {X : Cx} {d : Nat} {M M2 : Mem} {a : Nat} {p0 p1 : Int32} {r : Int32} (h : V X d 76 0 [some (vR 70 a), some (vI p0), some (vI p1), none, none, none, none] [] M (fun r' M' => r' = (some (vI r)) ∧ M' = M2)) : CC X d 76 [vR 70 a, vI p0, vI p1] M (some (vI r)) M2 := CC_of (by decide) trivial (Nat.le_of_ble_eq_true rfl) (by simp [c1]) h
-- ClayBoots$Thoughts.closeWears, from 0
set_option maxRecDepth 100000 in
theorem w77_0 {X : Cx} {d : Nat} {M : Mem} {Q : Option Vl → Mem → Prop} {a : Nat} {p0 : Int32}
    (h : V X (d + 1) 77 4 [some (vR 70 a), some (vI p0), some (vI 0), some (vI 0), none, none] [] M Q) :
    V X (d + 1) 77 0 [some (vR 70 a), some (vI p0), none, none, none, none] [] M Q := wpn_sound (cuts := [(4, [true, true, true, true, false, false]), (24, [true, true, true, true, true, false])]) ok77 5 0 _ _ _ h
-- ClayBoots$Thoughts.closeWears, from 4
set_option maxRecDepth 100000 in
theorem w77_4 {X : Cx} {d : Nat} {M : Mem} {Q : Option Vl → Mem → Prop} {a : Nat} {x1 x2 x3 : Int32}
    (h : ((M.1 80 a 0) ≤ x3 → Q (some (vI x2)) M) ∧ (¬ (M.1 80 a 0) ≤ x3 → (10 ≤ x3 → Q (some (vI x2)) M) ∧ (¬ 10 ≤ x3 → V X (d + 1) 77 24 [some (vR 70 a), some (vI x1), some (vI x2), some (vI x3), some (vI 0), none] [] M Q))) :
    V X (d + 1) 77 4 [some (vR 70 a), some (vI x1), some (vI x2), some (vI x3), none, none] [] M Q := wpn_sound (cuts := [(4, [true, true, true, true, false, false]), (24, [true, true, true, true, true, false])]) ok77 11 4 _ _ _ h
-- ClayBoots$Thoughts.closeWears, from 24
set_option maxRecDepth 100000 in
theorem w77_24 {X : Cx} {d : Nat} {M : Mem} {Q : Option Vl → Mem → Prop} {a : Nat} {x1 x2 x3 x4 : Int32}
    (h : (x3 ≤ x4 → V X (d + 1) 77 4 [some (vR 70 a), some (vI x1), some (vI x2), some (vI (x3 + 1)), none, none] [] M Q) ∧ (¬ x3 ≤ x4 → inb x3 10 ∧ inb x4 10 ∧ inb x3 10 ∧ inb x4 10 ∧ (x1 < ((if 0 ≤ ((M.1 81 a (ix x3)) - (M.1 81 a (ix x4))) then ((M.1 81 a (ix x3)) - (M.1 81 a (ix x4))) else 0 - ((M.1 81 a (ix x3)) - (M.1 81 a (ix x4)))) + (if 0 ≤ ((M.1 82 a (ix x3)) - (M.1 82 a (ix x4))) then ((M.1 82 a (ix x3)) - (M.1 82 a (ix x4))) else 0 - ((M.1 82 a (ix x3)) - (M.1 82 a (ix x4))))) → V X (d + 1) 77 24 [some (vR 70 a), some (vI x1), some (vI x2), some (vI x3), some (vI (x4 + 1)), none] [] M Q) ∧ (¬ x1 < ((if 0 ≤ ((M.1 81 a (ix x3)) - (M.1 81 a (ix x4))) then ((M.1 81 a (ix x3)) - (M.1 81 a (ix x4))) else 0 - ((M.1 81 a (ix x3)) - (M.1 81 a (ix x4)))) + (if 0 ≤ ((M.1 82 a (ix x3)) - (M.1 82 a (ix x4))) then ((M.1 82 a (ix x3)) - (M.1 82 a (ix x4))) else 0 - ((M.1 82 a (ix x3)) - (M.1 82 a (ix x4))))) → V X (d + 1) 77 24 [some (vR 70 a), some (vI x1), some (vI (x2 + 1)), some (vI x3), some (vI (x4 + 1)), none] [] M Q))) :
    V X (d + 1) 77 24 [some (vR 70 a), some (vI x1), some (vI x2), some (vI x3), some (vI x4), none] [] M Q := wpn_sound (cuts := [(4, [true, true, true, true, false, false]), (24, [true, true, true, true, true, false])]) ok77 36 24 _ _ _ h
theorem e77 {X : Cx} {d : Nat} {M M2 : Mem} {a : Nat} {p0 : Int32} {r : Int32} (h : V X d 77 0 [some (vR 70 a), some (vI p0), none, none, none, none] [] M (fun r' M' => r' = (some (vI r)) ∧ M' = M2)) : CC X d 77 [vR 70 a, vI p0] M (some (vI r)) M2 := CC_of (by decide) trivial (Nat.le_of_ble_eq_true rfl) (by simp [c1]) h
-- ClayBoots$Thoughts.standInLine, from 0
set_option maxRecDepth 100000 in
theorem w78_0 {X : Cx} {d : Nat} {M : Mem} {Q : Option Vl → Mem → Prop} {a : Nat} {p0 p1 : Int32}
    (h : V X (d + 1) 78 2 [some (vR 70 a), some (vI p0), some (vI p1), some (vI 0), none, none, none, none, none, none] [] M Q) :
    V X (d + 1) 78 0 [some (vR 70 a), some (vI p0), some (vI p1), none, none, none, none, none, none, none] [] M Q := wpn_sound (cuts := [(2, [true, true, true, true, false, false, false, false, false, false]), (31, [true, true, true, true, true, true, true, false, false, false])]) ok78 3 0 _ _ _ h
-- ClayBoots$Thoughts.standInLine, from 2
set_option maxRecDepth 100000 in
theorem w78_2 {X : Cx} {d : Nat} {M : Mem} {Q : Option Vl → Mem → Prop} {a : Nat} {x1 x2 x3 : Int32}
    (h : (4 ≤ x3 → V X (d + 1) 78 31 [some (vR 70 a), some (vI x1), some (vI x2), some (vI 0), some (vI 0), some (vI 0), some (vI 0), none, none, none] [] M Q) ∧ (¬ 4 ≤ x3 → inb x3 4 ∧ ∀ M1, M1 = st M 74 a (ix x3) 0 → V X (d + 1) 78 2 [some (vR 70 a), some (vI x1), some (vI x2), some (vI (x3 + 1)), none, none, none, none, none, none] [] M1 Q)) :
    V X (d + 1) 78 2 [some (vR 70 a), some (vI x1), some (vI x2), some (vI x3), none, none, none, none, none, none] [] M Q := wpn_sound (cuts := [(2, [true, true, true, true, false, false, false, false, false, false]), (31, [true, true, true, true, true, true, true, false, false, false])]) ok78 12 2 _ _ _ h
-- ClayBoots$Thoughts.standInLine, from 31
set_option maxRecDepth 100000 in
theorem w78_31 {X : Cx} {d : Nat} {M : Mem} {Q : Option Vl → Mem → Prop} {a : Nat} {x1 x2 x3 x4 x5 x6 : Int32}
    (h : ((M.1 83 a 0) ≤ x6 → (x2 = 0 → Q (some (vI x4)) M) ∧ (¬ x2 = 0 → Q (some (vI x3)) M)) ∧ (¬ (M.1 83 a 0) ≤ x6 → (10 ≤ x6 → (x2 = 0 → Q (some (vI x4)) M) ∧ (¬ x2 = 0 → Q (some (vI x3)) M)) ∧ (¬ 10 ≤ x6 → ∃ (r1 : Int32) (M1 : Mem), CC X d 79 [vR 70 a, vI x5] M (some (vI r1)) M1 ∧ ∃ (r2 : Int32) (M2 : Mem), CC X d 80 [vR 70 a, vI x1] M1 (some (vI r2)) M2 ∧ inb r2 4 ∧ inb r1 10 ∧ inb r1 10 ∧ inb r1 10 ∧ inb r2 4 ∧ ∀ M3, M3 = st M2 74 a (ix r2) ((if (M2.1 74 a (ix r2)) < (M2.1 84 a (ix r1)) then (M2.1 84 a (ix r1)) else (M2.1 74 a (ix r2))) + (M2.1 85 a (ix r1))) → inb r2 4 ∧ V X (d + 1) 78 31 [some (vR 70 a), some (vI x1), some (vI x2), some (vI (x3 + ((if (M2.1 74 a (ix r2)) < (M2.1 84 a (ix r1)) then (M2.1 84 a (ix r1)) else (M2.1 74 a (ix r2))) - (M2.1 84 a (ix r1))))), some (vI (if x4 < (M3.1 74 a (ix r2)) then (M3.1 74 a (ix r2)) else x4)), some (vI (x5 ||| (1 <<< (r1 &&& 31)))), some (vI (x6 + 1)), none, none, none] [] M3 Q))) :
    V X (d + 1) 78 31 [some (vR 70 a), some (vI x1), some (vI x2), some (vI x3), some (vI x4), some (vI x5), some (vI x6), none, none, none] [] M Q := wpn_sound (cuts := [(2, [true, true, true, true, false, false, false, false, false, false]), (31, [true, true, true, true, true, true, true, false, false, false])]) ok78 64 31 _ _ _ h
theorem e78 {X : Cx} {d : Nat} {M M2 : Mem} {a : Nat} {p0 p1 : Int32} {r : Int32} (h : V X d 78 0 [some (vR 70 a), some (vI p0), some (vI p1), none, none, none, none, none, none, none] [] M (fun r' M' => r' = (some (vI r)) ∧ M' = M2)) : CC X d 78 [vR 70 a, vI p0, vI p1] M (some (vI r)) M2 := CC_of (by decide) trivial (Nat.le_of_ble_eq_true rfl) (by simp [c1]) h
