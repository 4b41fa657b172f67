-- ClayBoots$Thoughts.nextCaller, from 0
set_option maxRecDepth 100000 in
theorem w79_0 {X : Cx} {d : Nat} {M : Mem} {Q : Option Vl → Mem → Prop} {a : Nat} {p0 : Int32}
    (h : V X (d + 1) 79 8 [some (vR 70 a), some (vI p0), some (vI 0), some (vI 1000000), some (vI 0)] [] M Q) :
    V X (d + 1) 79 0 [some (vR 70 a), some (vI p0), none, none, none] [] M Q := wpn_sound (cuts := [(8, [true, true, true, true, true])]) ok79 7 0 _ _ _ h
-- ClayBoots$Thoughts.nextCaller, from 8
set_option maxRecDepth 100000 in
theorem w79_8 {X : Cx} {d : Nat} {M : Mem} {Q : Option Vl → Mem → Prop} {a : Nat} {x1 x2 x3 x4 : Int32}
    (h : ((M.1 83 a 0) ≤ x4 → Q (some (vI x2)) M) ∧ (¬ (M.1 83 a 0) ≤ x4 → (10 ≤ x4 → Q (some (vI x2)) M) ∧ (¬ 10 ≤ x4 → (¬ ((x1 >>> (x4 &&& 31)) &&& 1) = 0 → V X (d + 1) 79 8 [some (vR 70 a), some (vI x1), some (vI x2), some (vI x3), some (vI (x4 + 1))] [] M Q) ∧ (((x1 >>> (x4 &&& 31)) &&& 1) = 0 → inb x4 10 ∧ (x3 ≤ (M.1 84 a (ix x4)) → V X (d + 1) 79 8 [some (vR 70 a), some (vI x1), some (vI x2), some (vI x3), some (vI (x4 + 1))] [] M Q) ∧ (¬ x3 ≤ (M.1 84 a (ix x4)) → inb x4 10 ∧ V X (d + 1) 79 8 [some (vR 70 a), some (vI x1), some (vI x4), some (vI (M.1 84 a (ix x4))), some (vI (x4 + 1))] [] M Q))))) :
    V X (d + 1) 79 8 [some (vR 70 a), some (vI x1), some (vI x2), some (vI x3), some (vI x4)] [] M Q := wpn_sound (cuts := [(8, [true, true, true, true, true])]) ok79 32 8 _ _ _ h
theorem e79 {X : Cx} {d : Nat} {M M2 : Mem} {a : Nat} {p0 : Int32} {r : Int32} (h : V X d 79 0 [some (vR 70 a), some (vI p0), none, none, none] [] M (fun r' M' => r' = (some (vI r)) ∧ M' = M2)) : CC X d 79 [vR 70 a, vI p0] M (some (vI r)) M2 := CC_of (by decide) trivial (Nat.le_of_ble_eq_true rfl) (by simp [c1]) h
-- ClayBoots$Thoughts.freeFirst, from 0
set_option maxRecDepth 100000 in
theorem w80_0 {X : Cx} {d : Nat} {M : Mem} {Q : Option Vl → Mem → Prop} {a : Nat} {p0 : Int32}
    (h : V X (d + 1) 80 4 [some (vR 70 a), some (vI p0), some (vI 0), some (vI 1)] [] M Q) :
    V X (d + 1) 80 0 [some (vR 70 a), some (vI p0), none, none] [] M Q := wpn_sound (cuts := [(4, [true, true, true, true])]) ok80 5 0 _ _ _ h
-- ClayBoots$Thoughts.freeFirst, from 4
set_option maxRecDepth 100000 in
theorem w80_4 {X : Cx} {d : Nat} {M : Mem} {Q : Option Vl → Mem → Prop} {a : Nat} {x1 x2 x3 : Int32}
    (h : (x1 ≤ x3 → Q (some (vI x2)) M) ∧ (¬ x1 ≤ x3 → (4 ≤ x3 → Q (some (vI x2)) M) ∧ (¬ 4 ≤ x3 → inb x3 4 ∧ inb x2 4 ∧ ((M.1 74 a (ix x2)) ≤ (M.1 74 a (ix x3)) → V X (d + 1) 80 4 [some (vR 70 a), some (vI x1), some (vI x2), some (vI (x3 + 1))] [] M Q) ∧ (¬ (M.1 74 a (ix x2)) ≤ (M.1 74 a (ix x3)) → V X (d + 1) 80 4 [some (vR 70 a), some (vI x1), some (vI x3), some (vI (x3 + 1))] [] M Q)))) :
    V X (d + 1) 80 4 [some (vR 70 a), some (vI x1), some (vI x2), some (vI x3)] [] M Q := wpn_sound (cuts := [(4, [true, true, true, true])]) ok80 20 4 _ _ _ h
theorem e80 {X : Cx} {d : Nat} {M M2 : Mem} {a : Nat} {p0 : Int32} {r : Int32} (h : V X d 80 0 [some (vR 70 a), some (vI p0), none, none] [] M (fun r' M' => r' = (some (vI r)) ∧ M' = M2)) : CC X d 80 [vR 70 a, vI p0] M (some (vI r)) M2 := CC_of (by decide) trivial (Nat.le_of_ble_eq_true rfl) (by simp [c1]) h
-- ClayBoots$Thoughts.bestDays, from 0
set_option maxRecDepth 100000 in
theorem w81_0 {X : Cx} {d : Nat} {M : Mem} {Q : Option Vl → Mem → Prop} {a : Nat} {p0 p1 : Int32}
    (h : V X (d + 1) 81 21 [some (vR 70 a), some (vI p0), some (vI p1), some (vI (-1)), some (vI (-1)), some (vI ((if 20 < (M.1 86 a 0) then 20 else (M.1 86 a 0)) - 1)), none, none] [] M Q) :
    V X (d + 1) 81 0 [some (vR 70 a), some (vI p0), some (vI p1), none, none, none, none, none] [] M Q := wpn_sound (cuts := [(21, [true, true, true, true, true, true, false, false]), (41, [true, true, true, true, true, true, true, true])]) ok81 13 0 _ _ _ h
-- ClayBoots$Thoughts.bestDays, from 21
set_option maxRecDepth 100000 in
theorem w81_21 {X : Cx} {d : Nat} {M : Mem} {Q : Option Vl → Mem → Prop} {a : Nat} {x1 x2 x3 x4 x5 : Int32}
    (h : (x5 < 0 → (x2 = 0 → Q (some (vI x4)) M) ∧ (¬ x2 = 0 → Q (some (vI (if 0 < x3 then x3 else 0))) M)) ∧ (¬ x5 < 0 → V X (d + 1) 81 41 [some (vR 70 a), some (vI x1), some (vI x2), some (vI x3), some (vI x4), some (vI x5), some (vI 0), some (vI ((x5 + 1) + (if 0 < x1 then x1 else 0)))] [] M Q)) :
    V X (d + 1) 81 21 [some (vR 70 a), some (vI x1), some (vI x2), some (vI x3), some (vI x4), some (vI x5), none, none] [] M Q := wpn_sound (cuts := [(21, [true, true, true, true, true, true, false, false]), (41, [true, true, true, true, true, true, true, true])]) ok81 13 21 _ _ _ h
-- ClayBoots$Thoughts.bestDays, from 41
set_option maxRecDepth 100000 in
theorem w81_41 {X : Cx} {d : Nat} {M : Mem} {Q : Option Vl → Mem → Prop} {a : Nat} {x1 x2 x3 x4 x5 x6 x7 : Int32}
    (h : ((M.1 86 a 0) ≤ x7 → inb x5 20 ∧ inb x5 20 ∧ ∀ M1, M1 = st M 75 a (ix x5) ((M.1 87 a (ix x5)) + x6) → inb x5 20 ∧ ((M1.1 75 a (ix x5)) < x3 → V X (d + 1) 81 21 [some (vR 70 a), some (vI x1), some (vI x2), some (vI x3), some (vI x4), some (vI (x5 + (-1))), none, none] [] M1 Q) ∧ (¬ (M1.1 75 a (ix x5)) < x3 → inb x5 20 ∧ V X (d + 1) 81 21 [some (vR 70 a), some (vI x1), some (vI x2), some (vI (M1.1 75 a (ix x5))), some (vI x5), some (vI (x5 + (-1))), none, none] [] M1 Q)) ∧ (¬ (M.1 86 a 0) ≤ x7 → (20 ≤ x7 → inb x5 20 ∧ inb x5 20 ∧ ∀ M2, M2 = st M 75 a (ix x5) ((M.1 87 a (ix x5)) + x6) → inb x5 20 ∧ ((M2.1 75 a (ix x5)) < x3 → V X (d + 1) 81 21 [some (vR 70 a), some (vI x1), some (vI x2), some (vI x3), some (vI x4), some (vI (x5 + (-1))), none, none] [] M2 Q) ∧ (¬ (M2.1 75 a (ix x5)) < x3 → inb x5 20 ∧ V X (d + 1) 81 21 [some (vR 70 a), some (vI x1), some (vI x2), some (vI (M2.1 75 a (ix x5))), some (vI x5), some (vI (x5 + (-1))), none, none] [] M2 Q)) ∧ (¬ 20 ≤ x7 → inb x7 20 ∧ V X (d + 1) 81 41 [some (vR 70 a), some (vI x1), some (vI x2), some (vI x3), some (vI x4), some (vI x5), some (vI (if x6 < (M.1 75 a (ix x7)) then (M.1 75 a (ix x7)) else x6)), some (vI (x7 + 1))] [] M Q))) :
    V X (d + 1) 81 41 [some (vR 70 a), some (vI x1), some (vI x2), some (vI x3), some (vI x4), some (vI x5), some (vI x6), some (vI x7)] [] M Q := wpn_sound (cuts := [(21, [true, true, true, true, true, true, false, false]), (41, [true, true, true, true, true, true, true, true])]) ok81 35 41 _ _ _ h
theorem e81 {X : Cx} {d : Nat} {M M2 : Mem} {a : Nat} {p0 p1 : Int32} {r : Int32} (h : V X d 81 0 [some (vR 70 a), some (vI p0), some (vI p1), none, none, none, none, none] [] M (fun r' M' => r' = (some (vI r)) ∧ M' = M2)) : CC X d 81 [vR 70 a, vI p0, vI p1] M (some (vI r)) M2 := CC_of (by decide) trivial (Nat.le_of_ble_eq_true rfl) (by simp [c1]) h
-- ClayBoots$Thoughts.mostOffering, from 0
set_option maxRecDepth 100000 in
theorem w82_0 {X : Cx} {d : Nat} {M : Mem} {Q : Option Vl → Mem → Prop} {a : Nat} {p0 : Int32}
    (h : V X (d + 1) 82 4 [some (vR 70 a), some (vI p0), some (vI (-1)), some (vI 0)] [] M Q) :
    V X (d + 1) 82 0 [some (vR 70 a), some (vI p0), none, none] [] M Q := wpn_sound (cuts := [(4, [true, true, true, true])]) ok82 5 0 _ _ _ h
-- ClayBoots$Thoughts.mostOffering, from 4
set_option maxRecDepth 100000 in
theorem w82_4 {X : Cx} {d : Nat} {M : Mem} {Q : Option Vl → Mem → Prop} {a : Nat} {x1 x2 x3 : Int32}
    (h : (4 ≤ x3 → Q (some (vI x2)) M) ∧ (¬ 4 ≤ x3 → (x3 = x1 → V X (d + 1) 82 4 [some (vR 70 a), some (vI x1), some (vI x2), some (vI (x3 + 1))] [] M Q) ∧ (¬ x3 = x1 → ∃ (r1 : Int32) (M1 : Mem), CC X d 83 [vR 70 a, vI x3] M (some (vI r1)) M1 ∧ ∃ (r2 : Int32) (M2 : Mem), CC X d 83 [vR 70 a, vI x2] M1 (some (vI r2)) M2 ∧ (r1 ≤ r2 → V X (d + 1) 82 4 [some (vR 70 a), some (vI x1), some (vI x2), some (vI (x3 + 1))] [] M2 Q) ∧ (¬ r1 ≤ r2 → V X (d + 1) 82 4 [some (vR 70 a), some (vI x1), some (vI x3), some (vI (x3 + 1))] [] M2 Q)))) :
    V X (d + 1) 82 4 [some (vR 70 a), some (vI x1), some (vI x2), some (vI x3)] [] M Q := wpn_sound (cuts := [(4, [true, true, true, true])]) ok82 18 4 _ _ _ h
theorem e82 {X : Cx} {d : Nat} {M M2 : Mem} {a : Nat} {p0 : Int32} {r : Int32} (h : V X d 82 0 [some (vR 70 a), some (vI p0), none, none] [] M (fun r' M' => r' = (some (vI r)) ∧ M' = M2)) : CC X d 82 [vR 70 a, vI p0] M (some (vI r)) M2 := CC_of (by decide) trivial (Nat.le_of_ble_eq_true rfl) (by simp [c1]) h
-- ClayBoots$Thoughts.greatestOf, from 0
set_option maxRecDepth 100000 in
theorem w83_0 {X : Cx} {d : Nat} {M : Mem} {Q : Option Vl → Mem → Prop} {a : Nat} {p0 : Int32}
    (h : V X (d + 1) 83 4 [some (vR 70 a), some (vI p0), some (vI (-1)), some (vI 0)] [] M Q) :
    V X (d + 1) 83 0 [some (vR 70 a), some (vI p0), none, none] [] M Q := wpn_sound (cuts := [(4, [true, true, true, true])]) ok83 5 0 _ _ _ h
-- ClayBoots$Thoughts.greatestOf, from 4
set_option maxRecDepth 100000 in
theorem w83_4 {X : Cx} {d : Nat} {M : Mem} {Q : Option Vl → Mem → Prop} {a : Nat} {x1 x2 x3 : Int32}
    (h : ((M.1 89 a 0) ≤ x3 → Q (some (vI x2)) M) ∧ (¬ (M.1 89 a 0) ≤ x3 → (8 ≤ x3 → Q (some (vI x2)) M) ∧ (¬ 8 ≤ x3 → inb x3 8 ∧ (¬ (M.1 90 a (ix x3)) = x1 → V X (d + 1) 83 4 [some (vR 70 a), some (vI x1), some (vI x2), some (vI (x3 + 1))] [] M Q) ∧ ((M.1 90 a (ix x3)) = x1 → inb x3 8 ∧ V X (d + 1) 83 4 [some (vR 70 a), some (vI x1), some (vI (if x2 < (M.1 91 a (ix x3)) then (M.1 91 a (ix x3)) else x2)), some (vI (x3 + 1))] [] M Q)))) :
    V X (d + 1) 83 4 [some (vR 70 a), some (vI x1), some (vI x2), some (vI x3)] [] M Q := wpn_sound (cuts := [(4, [true, true, true, true])]) ok83 26 4 _ _ _ h
theorem e83 {X : Cx} {d : Nat} {M M2 : Mem} {a : Nat} {p0 : Int32} {r : Int32} (h : V X d 83 0 [some (vR 70 a), some (vI p0), none, none] [] M (fun r' M' => r' = (some (vI r)) ∧ M' = M2)) : CC X d 83 [vR 70 a, vI p0] M (some (vI r)) M2 := CC_of (by decide) trivial (Nat.le_of_ble_eq_true rfl) (by simp [c1]) h
-- ClayBoots$Thoughts.longestRow, from 0
set_option maxRecDepth 100000 in
theorem w84_0 {X : Cx} {d : Nat} {M : Mem} {Q : Option Vl → Mem → Prop} {a : Nat} {p0 : Int32}
    (h : V X (d + 1) 84 7 [some (vR 70 a), some (vI p0), some (vI 0), some (vI 1), some (vI 0)] [] M Q) :
    V X (d + 1) 84 0 [some (vR 70 a), some (vI p0), none, none, none] [] M Q := wpn_sound (cuts := [(7, [true, true, true, true, true])]) ok84 7 0 _ _ _ h
-- ClayBoots$Thoughts.longestRow, from 7
set_option maxRecDepth 100000 in
theorem w84_7 {X : Cx} {d : Nat} {M : Mem} {Q : Option Vl → Mem → Prop} {a : Nat} {x1 x2 x3 x4 : Int32}
    (h : ((M.1 92 a 0) ≤ x4 → (x1 = 0 → Q (some (vI x3)) M) ∧ (¬ x1 = 0 → Q (some (vI x2)) M)) ∧ (¬ (M.1 92 a 0) ≤ x4 → (12 ≤ x4 → (x1 = 0 → Q (some (vI x3)) M) ∧ (¬ x1 = 0 → Q (some (vI x2)) M)) ∧ (¬ 12 ≤ x4 → ∃ (M1 : Mem), CC X d 85 [vR 70 a, vI x4] M none M1 ∧ inb x4 12 ∧ ((M1.1 76 a (ix x4)) ≤ x2 → inb x4 12 ∧ (¬ (M1.1 76 a (ix x4)) = x2 → V X (d + 1) 84 7 [some (vR 70 a), some (vI x1), some (vI x2), some (vI x3), some (vI (x4 + 1))] [] M1 Q) ∧ ((M1.1 76 a (ix x4)) = x2 → inb x4 12 ∧ V X (d + 1) 84 7 [some (vR 70 a), some (vI x1), some (vI x2), some (vI (x3 + (M1.1 77 a (ix x4)))), some (vI (x4 + 1))] [] M1 Q)) ∧ (¬ (M1.1 76 a (ix x4)) ≤ x2 → inb x4 12 ∧ inb x4 12 ∧ V X (d + 1) 84 7 [some (vR 70 a), some (vI x1), some (vI (M1.1 76 a (ix x4))), some (vI (M1.1 77 a (ix x4))), some (vI (x4 + 1))] [] M1 Q)))) :
    V X (d + 1) 84 7 [some (vR 70 a), some (vI x1), some (vI x2), some (vI x3), some (vI x4)] [] M Q := wpn_sound (cuts := [(7, [true, true, true, true, true])]) ok84 33 7 _ _ _ h
theorem e84 {X : Cx} {d : Nat} {M M2 : Mem} {a : Nat} {p0 : Int32} {r : Int32} (h : V X d 84 0 [some (vR 70 a), some (vI p0), none, none, none] [] M (fun r' M' => r' = (some (vI r)) ∧ M' = M2)) : CC X d 84 [vR 70 a, vI p0] M (some (vI r)) M2 := CC_of (by decide) trivial (Nat.le_of_ble_eq_true rfl) (by simp [c1]) h
-- ClayBoots$Thoughts.rowsEndingAt, from 0
set_option maxRecDepth 100000 in
theorem w85_0 {X : Cx} {d : Nat} {M : Mem} {Q : Option Vl → Mem → Prop} {a : Nat} {p0 : Int32}
    (h : (p0 < 0 → Q (none) M) ∧ (¬ p0 < 0 → (p0 < 12 → inb p0 12 ∧ ∀ M1, M1 = st M 76 a (ix p0) 1 → inb p0 12 ∧ ∀ M2, M2 = st M1 77 a (ix p0) 1 → V X (d + 1) 85 27 [some (vR 70 a), some (vI p0), some (vI 0)] [] M2 Q) ∧ (¬ p0 < 12 → Q (none) M))) :
    V X (d + 1) 85 0 [some (vR 70 a), some (vI p0), none] [] M Q := wpn_sound (cuts := [(27, [true, true, true])]) ok85 18 0 _ _ _ h
-- ClayBoots$Thoughts.rowsEndingAt, from 27
set_option maxRecDepth 100000 in
theorem w85_27 {X : Cx} {d : Nat} {M : Mem} {Q : Option Vl → Mem → Prop} {a : Nat} {x1 x2 : Int32}
    (h : (x1 ≤ x2 → Q (none) M) ∧ (¬ x1 ≤ x2 → inb x2 12 ∧ inb x1 12 ∧ ((M.1 93 a (ix x1)) ≤ (M.1 93 a (ix x2)) → V X (d + 1) 85 27 [some (vR 70 a), some (vI x1), some (vI (x2 + 1))] [] M Q) ∧ (¬ (M.1 93 a (ix x1)) ≤ (M.1 93 a (ix x2)) → inb x2 12 ∧ inb x1 12 ∧ (((M.1 76 a (ix x2)) + 1) ≤ (M.1 76 a (ix x1)) → inb x2 12 ∧ inb x1 12 ∧ (¬ ((M.1 76 a (ix x2)) + 1) = (M.1 76 a (ix x1)) → V X (d + 1) 85 27 [some (vR 70 a), some (vI x1), some (vI (x2 + 1))] [] M Q) ∧ (((M.1 76 a (ix x2)) + 1) = (M.1 76 a (ix x1)) → inb x1 12 ∧ inb x2 12 ∧ inb x1 12 ∧ ∀ M1, M1 = st M 77 a (ix x1) ((M.1 77 a (ix x1)) + (M.1 77 a (ix x2))) → V X (d + 1) 85 27 [some (vR 70 a), some (vI x1), some (vI (x2 + 1))] [] M1 Q)) ∧ (¬ ((M.1 76 a (ix x2)) + 1) ≤ (M.1 76 a (ix x1)) → inb x2 12 ∧ inb x1 12 ∧ ∀ M2, M2 = st M 76 a (ix x1) ((M.1 76 a (ix x2)) + 1) → inb x2 12 ∧ inb x1 12 ∧ ∀ M3, M3 = st M2 77 a (ix x1) (M2.1 77 a (ix x2)) → V X (d + 1) 85 27 [some (vR 70 a), some (vI x1), some (vI (x2 + 1))] [] M3 Q)))) :
    V X (d + 1) 85 27 [some (vR 70 a), some (vI x1), some (vI x2)] [] M Q := wpn_sound (cuts := [(27, [true, true, true])]) ok85 50 27 _ _ _ h
theorem e85 {X : Cx} {d : Nat} {M M2 : Mem} {a : Nat} {p0 : Int32} (h : V X d 85 0 [some (vR 70 a), some (vI p0), none] [] M (fun r' M' => r' = none ∧ M' = M2)) : CC X d 85 [vR 70 a, vI p0] M none M2 := CC_of (by decide) trivial (Nat.le_of_ble_eq_true rfl) (by simp [c1]) h
-- ClayBoots$Told.add, from 0
set_option maxRecDepth 100000 in
theorem w86_0_80 {X : Cx} {d : Nat} {M : Mem} {Q : Option Vl → Mem → Prop} {a : Nat} {p0 p1 : Int32}
    (h : ((Int32.ofNat 10) ≤ (M.1 80 a 0) → Q (some (vI (-1))) M) ∧ (¬ (Int32.ofNat 10) ≤ (M.1 80 a 0) → ((M.1 80 a 0) < (Int32.ofNat 10) → inb (M.1 80 a 0) 10 ∧ ∀ M1, M1 = st M 81 a (ix (M.1 80 a 0)) p0 → inb (M1.1 80 a 0) 10 ∧ ∀ M2, M2 = st M1 82 a (ix (M1.1 80 a 0)) p1 → ∀ M3, M3 = st M2 80 a 0 ((M2.1 80 a 0) + 1) → Q (some (vI (M3.1 80 a 0))) M3) ∧ (¬ (M.1 80 a 0) < (Int32.ofNat 10) → Q (some (vI (-1))) M))) :
    V X (d + 1) 86 0 [some (vR 80 a), some (vI p0), some (vI p1)] [] M Q := wpn_sound (cuts := []) ok86 34 0 _ _ _ h
theorem e86_80 {X : Cx} {d : Nat} {M M2 : Mem} {a : Nat} {p0 p1 : Int32} {r : Int32} (h : V X d 86 0 [some (vR 80 a), some (vI p0), some (vI p1)] [] M (fun r' M' => r' = (some (vI r)) ∧ M' = M2)) : CC X d 86 [vR 80 a, vI p0, vI p1] M (some (vI r)) M2 := CC_of (by decide) trivial (Nat.le_of_ble_eq_true rfl) (by simp [c1]) h
-- ClayBoots$Told.add, from 0
set_option maxRecDepth 100000 in
theorem w86_0_83 {X : Cx} {d : Nat} {M : Mem} {Q : Option Vl → Mem → Prop} {a : Nat} {p0 p1 : Int32}
    (h : ((Int32.ofNat 10) ≤ (M.1 83 a 0) → Q (some (vI (-1))) M) ∧ (¬ (Int32.ofNat 10) ≤ (M.1 83 a 0) → ((M.1 83 a 0) < (Int32.ofNat 10) → inb (M.1 83 a 0) 10 ∧ ∀ M1, M1 = st M 84 a (ix (M.1 83 a 0)) p0 → inb (M1.1 83 a 0) 10 ∧ ∀ M2, M2 = st M1 85 a (ix (M1.1 83 a 0)) p1 → ∀ M3, M3 = st M2 83 a 0 ((M2.1 83 a 0) + 1) → Q (some (vI (M3.1 83 a 0))) M3) ∧ (¬ (M.1 83 a 0) < (Int32.ofNat 10) → Q (some (vI (-1))) M))) :
    V X (d + 1) 86 0 [some (vR 83 a), some (vI p0), some (vI p1)] [] M Q := wpn_sound (cuts := []) ok86 34 0 _ _ _ h
theorem e86_83 {X : Cx} {d : Nat} {M M2 : Mem} {a : Nat} {p0 p1 : Int32} {r : Int32} (h : V X d 86 0 [some (vR 83 a), some (vI p0), some (vI p1)] [] M (fun r' M' => r' = (some (vI r)) ∧ M' = M2)) : CC X d 86 [vR 83 a, vI p0, vI p1] M (some (vI r)) M2 := CC_of (by decide) trivial (Nat.le_of_ble_eq_true rfl) (by simp [c1]) h
-- ClayBoots$Told.add, from 0
set_option maxRecDepth 100000 in
theorem w86_0_86 {X : Cx} {d : Nat} {M : Mem} {Q : Option Vl → Mem → Prop} {a : Nat} {p0 p1 : Int32}
    (h : ((Int32.ofNat 20) ≤ (M.1 86 a 0) → Q (some (vI (-1))) M) ∧ (¬ (Int32.ofNat 20) ≤ (M.1 86 a 0) → ((M.1 86 a 0) < (Int32.ofNat 20) → inb (M.1 86 a 0) 20 ∧ ∀ M1, M1 = st M 87 a (ix (M.1 86 a 0)) p0 → inb (M1.1 86 a 0) 20 ∧ ∀ M2, M2 = st M1 88 a (ix (M1.1 86 a 0)) p1 → ∀ M3, M3 = st M2 86 a 0 ((M2.1 86 a 0) + 1) → Q (some (vI (M3.1 86 a 0))) M3) ∧ (¬ (M.1 86 a 0) < (Int32.ofNat 20) → Q (some (vI (-1))) M))) :
    V X (d + 1) 86 0 [some (vR 86 a), some (vI p0), some (vI p1)] [] M Q := wpn_sound (cuts := []) ok86 34 0 _ _ _ h
theorem e86_86 {X : Cx} {d : Nat} {M M2 : Mem} {a : Nat} {p0 p1 : Int32} {r : Int32} (h : V X d 86 0 [some (vR 86 a), some (vI p0), some (vI p1)] [] M (fun r' M' => r' = (some (vI r)) ∧ M' = M2)) : CC X d 86 [vR 86 a, vI p0, vI p1] M (some (vI r)) M2 := CC_of (by decide) trivial (Nat.le_of_ble_eq_true rfl) (by simp [c1]) h
-- ClayBoots$Told.add, from 0
set_option maxRecDepth 100000 in
theorem w86_0_89 {X : Cx} {d : Nat} {M : Mem} {Q : Option Vl → Mem → Prop} {a : Nat} {p0 p1 : Int32}
    (h : ((Int32.ofNat 8) ≤ (M.1 89 a 0) → Q (some (vI (-1))) M) ∧ (¬ (Int32.ofNat 8) ≤ (M.1 89 a 0) → ((M.1 89 a 0) < (Int32.ofNat 8) → inb (M.1 89 a 0) 8 ∧ ∀ M1, M1 = st M 90 a (ix (M.1 89 a 0)) p0 → inb (M1.1 89 a 0) 8 ∧ ∀ M2, M2 = st M1 91 a (ix (M1.1 89 a 0)) p1 → ∀ M3, M3 = st M2 89 a 0 ((M2.1 89 a 0) + 1) → Q (some (vI (M3.1 89 a 0))) M3) ∧ (¬ (M.1 89 a 0) < (Int32.ofNat 8) → Q (some (vI (-1))) M))) :
    V X (d + 1) 86 0 [some (vR 89 a), some (vI p0), some (vI p1)] [] M Q := wpn_sound (cuts := []) ok86 34 0 _ _ _ h
theorem e86_89 {X : Cx} {d : Nat} {M M2 : Mem} {a : Nat} {p0 p1 : Int32} {r : Int32} (h : V X d 86 0 [some (vR 89 a), some (vI p0), some (vI p1)] [] M (fun r' M' => r' = (some (vI r)) ∧ M' = M2)) : CC X d 86 [vR 89 a, vI p0, vI p1] M (some (vI r)) M2 := CC_of (by decide) trivial (Nat.le_of_ble_eq_true rfl) (by simp [c1]) h
-- ClayBoots$Told.add, from 0
set_option maxRecDepth 100000 in
theorem w86_0_92 {X : Cx} {d : Nat} {M : Mem} {Q : Option Vl → Mem → Prop} {a : Nat} {p0 p1 : Int32}
    (h : ((Int32.ofNat 12) ≤ (M.1 92 a 0) → Q (some (vI (-1))) M) ∧ (¬ (Int32.ofNat 12) ≤ (M.1 92 a 0) → ((M.1 92 a 0) < (Int32.ofNat 12) → inb (M.1 92 a 0) 12 ∧ ∀ M1, M1 = st M 93 a (ix (M.1 92 a 0)) p0 → inb (M1.1 92 a 0) 12 ∧ ∀ M2, M2 = st M1 94 a (ix (M1.1 92 a 0)) p1 → ∀ M3, M3 = st M2 92 a 0 ((M2.1 92 a 0) + 1) → Q (some (vI (M3.1 92 a 0))) M3) ∧ (¬ (M.1 92 a 0) < (Int32.ofNat 12) → Q (some (vI (-1))) M))) :
    V X (d + 1) 86 0 [some (vR 92 a), some (vI p0), some (vI p1)] [] M Q := wpn_sound (cuts := []) ok86 34 0 _ _ _ h
theorem e86_92 {X : Cx} {d : Nat} {M M2 : Mem} {a : Nat} {p0 p1 : Int32} {r : Int32} (h : V X d 86 0 [some (vR 92 a), some (vI p0), some (vI p1)] [] M (fun r' M' => r' = (some (vI r)) ∧ M' = M2)) : CC X d 86 [vR 92 a, vI p0, vI p1] M (some (vI r)) M2 := CC_of (by decide) trivial (Nat.le_of_ble_eq_true rfl) (by simp [c1]) h
-- ClayBoots$Told.clear, from 0
set_option maxRecDepth 100000 in
theorem w87_0_80 {X : Cx} {d : Nat} {M : Mem} {Q : Option Vl → Mem → Prop} {a : Nat}
    (h : ∀ M1, M1 = st M 80 a 0 0 → Q (some (vI 0)) M1) :
    V X (d + 1) 87 0 [some (vR 80 a)] [] M Q := wpn_sound (cuts := []) ok87 6 0 _ _ _ h
theorem e87_80 {X : Cx} {d : Nat} {M M2 : Mem} {a : Nat} {r : Int32} (h : V X d 87 0 [some (vR 80 a)] [] M (fun r' M' => r' = (some (vI r)) ∧ M' = M2)) : CC X d 87 [vR 80 a] M (some (vI r)) M2 := CC_of (by decide) trivial (Nat.le_of_ble_eq_true rfl) (by simp [c1]) h
-- ClayBoots$Told.clear, from 0
set_option maxRecDepth 100000 in
theorem w87_0_83 {X : Cx} {d : Nat} {M : Mem} {Q : Option Vl → Mem → Prop} {a : Nat}
    (h : ∀ M1, M1 = st M 83 a 0 0 → Q (some (vI 0)) M1) :
    V X (d + 1) 87 0 [some (vR 83 a)] [] M Q := wpn_sound (cuts := []) ok87 6 0 _ _ _ h
theorem e87_83 {X : Cx} {d : Nat} {M M2 : Mem} {a : Nat} {r : Int32} (h : V X d 87 0 [some (vR 83 a)] [] M (fun r' M' => r' = (some (vI r)) ∧ M' = M2)) : CC X d 87 [vR 83 a] M (some (vI r)) M2 := CC_of (by decide) trivial (Nat.le_of_ble_eq_true rfl) (by simp [c1]) h
-- ClayBoots$Told.clear, from 0
set_option maxRecDepth 100000 in
theorem w87_0_86 {X : Cx} {d : Nat} {M : Mem} {Q : Option Vl → Mem → Prop} {a : Nat}
    (h : ∀ M1, M1 = st M 86 a 0 0 → Q (some (vI 0)) M1) :
    V X (d + 1) 87 0 [some (vR 86 a)] [] M Q := wpn_sound (cuts := []) ok87 6 0 _ _ _ h
theorem e87_86 {X : Cx} {d : Nat} {M M2 : Mem} {a : Nat} {r : Int32} (h : V X d 87 0 [some (vR 86 a)] [] M (fun r' M' => r' = (some (vI r)) ∧ M' = M2)) : CC X d 87 [vR 86 a] M (some (vI r)) M2 := CC_of (by decide) trivial (Nat.le_of_ble_eq_true rfl) (by simp [c1]) h
-- ClayBoots$Told.clear, from 0
set_option maxRecDepth 100000 in
theorem w87_0_89 {X : Cx} {d : Nat} {M : Mem} {Q : Option Vl → Mem → Prop} {a : Nat}
    (h : ∀ M1, M1 = st M 89 a 0 0 → Q (some (vI 0)) M1) :
    V X (d + 1) 87 0 [some (vR 89 a)] [] M Q := wpn_sound (cuts := []) ok87 6 0 _ _ _ h
theorem e87_89 {X : Cx} {d : Nat} {M M2 : Mem} {a : Nat} {r : Int32} (h : V X d 87 0 [some (vR 89 a)] [] M (fun r' M' => r' = (some (vI r)) ∧ M' = M2)) : CC X d 87 [vR 89 a] M (some (vI r)) M2 := CC_of (by decide) trivial (Nat.le_of_ble_eq_true rfl) (by simp [c1]) h
-- ClayBoots$Told.clear, from 0
set_option maxRecDepth 100000 in
theorem w87_0_92 {X : Cx} {d : Nat} {M : Mem} {Q : Option Vl → Mem → Prop} {a : Nat}
    (h : ∀ M1, M1 = st M 92 a 0 0 → Q (some (vI 0)) M1) :
    V X (d + 1) 87 0 [some (vR 92 a)] [] M Q := wpn_sound (cuts := []) ok87 6 0 _ _ _ h
theorem e87_92 {X : Cx} {d : Nat} {M M2 : Mem} {a : Nat} {r : Int32} (h : V X d 87 0 [some (vR 92 a)] [] M (fun r' M' => r' = (some (vI r)) ∧ M' = M2)) : CC X d 87 [vR 92 a] M (some (vI r)) M2 := CC_of (by decide) trivial (Nat.le_of_ble_eq_true rfl) (by simp [c1]) h
-- ClayBoots$Told.become, from 0
set_option maxRecDepth 100000 in
theorem w88_0_80 {X : Cx} {d : Nat} {M : Mem} {Q : Option Vl → Mem → Prop} {a b : Nat}
    (h : ∀ M1, M1 = st M 80 a 0 (if (Int32.ofNat 10) < (M.1 80 b 0) then (Int32.ofNat 10) else (M.1 80 b 0)) → V X (d + 1) 88 18 [some (vR 80 a), some (vR 80 b), some (vI 0)] [] M1 Q) :
    V X (d + 1) 88 0 [some (vR 80 a), some (vR 80 b), none] [] M Q := wpn_sound (cuts := [(18, [true, true, true])]) ok88 11 0 _ _ _ h
-- ClayBoots$Told.become, from 18
set_option maxRecDepth 100000 in
theorem w88_18_80 {X : Cx} {d : Nat} {M : Mem} {Q : Option Vl → Mem → Prop} {a b : Nat} {x2 : Int32}
    (h : ((M.1 80 a 0) ≤ x2 → Q (none) M) ∧ (¬ (M.1 80 a 0) ≤ x2 → inb x2 10 ∧ inb x2 10 ∧ ∀ M1, M1 = st M 81 a (ix x2) (M.1 81 b (ix x2)) → inb x2 10 ∧ inb x2 10 ∧ ∀ M2, M2 = st M1 82 a (ix x2) (M1.1 82 b (ix x2)) → V X (d + 1) 88 18 [some (vR 80 a), some (vR 80 b), some (vI (x2 + 1))] [] M2 Q)) :
    V X (d + 1) 88 18 [some (vR 80 a), some (vR 80 b), some (vI x2)] [] M Q := wpn_sound (cuts := [(18, [true, true, true])]) ok88 23 18 _ _ _ h
theorem e88_80 {X : Cx} {d : Nat} {M M2 : Mem} {a b : Nat} (h : V X d 88 0 [some (vR 80 a), some (vR 80 b), none] [] M (fun r' M' => r' = none ∧ M' = M2)) : CC X d 88 [vR 80 a, vR 80 b] M none M2 := CC_of (by decide) trivial (Nat.le_of_ble_eq_true rfl) (by simp [c1]) h
-- ClayBoots$Told.become, from 0
set_option maxRecDepth 100000 in
theorem w88_0_83 {X : Cx} {d : Nat} {M : Mem} {Q : Option Vl → Mem → Prop} {a b : Nat}
    (h : ∀ M1, M1 = st M 83 a 0 (if (Int32.ofNat 10) < (M.1 83 b 0) then (Int32.ofNat 10) else (M.1 83 b 0)) → V X (d + 1) 88 18 [some (vR 83 a), some (vR 83 b), some (vI 0)] [] M1 Q) :
    V X (d + 1) 88 0 [some (vR 83 a), some (vR 83 b), none] [] M Q := wpn_sound (cuts := [(18, [true, true, true])]) ok88 11 0 _ _ _ h
-- ClayBoots$Told.become, from 18
set_option maxRecDepth 100000 in
theorem w88_18_83 {X : Cx} {d : Nat} {M : Mem} {Q : Option Vl → Mem → Prop} {a b : Nat} {x2 : Int32}
    (h : ((M.1 83 a 0) ≤ x2 → Q (none) M) ∧ (¬ (M.1 83 a 0) ≤ x2 → inb x2 10 ∧ inb x2 10 ∧ ∀ M1, M1 = st M 84 a (ix x2) (M.1 84 b (ix x2)) → inb x2 10 ∧ inb x2 10 ∧ ∀ M2, M2 = st M1 85 a (ix x2) (M1.1 85 b (ix x2)) → V X (d + 1) 88 18 [some (vR 83 a), some (vR 83 b), some (vI (x2 + 1))] [] M2 Q)) :
    V X (d + 1) 88 18 [some (vR 83 a), some (vR 83 b), some (vI x2)] [] M Q := wpn_sound (cuts := [(18, [true, true, true])]) ok88 23 18 _ _ _ h
theorem e88_83 {X : Cx} {d : Nat} {M M2 : Mem} {a b : Nat} (h : V X d 88 0 [some (vR 83 a), some (vR 83 b), none] [] M (fun r' M' => r' = none ∧ M' = M2)) : CC X d 88 [vR 83 a, vR 83 b] M none M2 := CC_of (by decide) trivial (Nat.le_of_ble_eq_true rfl) (by simp [c1]) h
-- ClayBoots$Told.become, from 0
set_option maxRecDepth 100000 in
theorem w88_0_86 {X : Cx} {d : Nat} {M : Mem} {Q : Option Vl → Mem → Prop} {a b : Nat}
    (h : ∀ M1, M1 = st M 86 a 0 (if (Int32.ofNat 20) < (M.1 86 b 0) then (Int32.ofNat 20) else (M.1 86 b 0)) → V X (d + 1) 88 18 [some (vR 86 a), some (vR 86 b), some (vI 0)] [] M1 Q) :
    V X (d + 1) 88 0 [some (vR 86 a), some (vR 86 b), none] [] M Q := wpn_sound (cuts := [(18, [true, true, true])]) ok88 11 0 _ _ _ h
-- ClayBoots$Told.become, from 18
set_option maxRecDepth 100000 in
theorem w88_18_86 {X : Cx} {d : Nat} {M : Mem} {Q : Option Vl → Mem → Prop} {a b : Nat} {x2 : Int32}
    (h : ((M.1 86 a 0) ≤ x2 → Q (none) M) ∧ (¬ (M.1 86 a 0) ≤ x2 → inb x2 20 ∧ inb x2 20 ∧ ∀ M1, M1 = st M 87 a (ix x2) (M.1 87 b (ix x2)) → inb x2 20 ∧ inb x2 20 ∧ ∀ M2, M2 = st M1 88 a (ix x2) (M1.1 88 b (ix x2)) → V X (d + 1) 88 18 [some (vR 86 a), some (vR 86 b), some (vI (x2 + 1))] [] M2 Q)) :
    V X (d + 1) 88 18 [some (vR 86 a), some (vR 86 b), some (vI x2)] [] M Q := wpn_sound (cuts := [(18, [true, true, true])]) ok88 23 18 _ _ _ h
theorem e88_86 {X : Cx} {d : Nat} {M M2 : Mem} {a b : Nat} (h : V X d 88 0 [some (vR 86 a), some (vR 86 b), none] [] M (fun r' M' => r' = none ∧ M' = M2)) : CC X d 88 [vR 86 a, vR 86 b] M none M2 := CC_of (by decide) trivial (Nat.le_of_ble_eq_true rfl) (by simp [c1]) h
-- ClayBoots$Told.become, from 0
set_option maxRecDepth 100000 in
theorem w88_0_89 {X : Cx} {d : Nat} {M : Mem} {Q : Option Vl → Mem → Prop} {a b : Nat}
    (h : ∀ M1, M1 = st M 89 a 0 (if (Int32.ofNat 8) < (M.1 89 b 0) then (Int32.ofNat 8) else (M.1 89 b 0)) → V X (d + 1) 88 18 [some (vR 89 a), some (vR 89 b), some (vI 0)] [] M1 Q) :
    V X (d + 1) 88 0 [some (vR 89 a), some (vR 89 b), none] [] M Q := wpn_sound (cuts := [(18, [true, true, true])]) ok88 11 0 _ _ _ h
-- ClayBoots$Told.become, from 18
set_option maxRecDepth 100000 in
theorem w88_18_89 {X : Cx} {d : Nat} {M : Mem} {Q : Option Vl → Mem → Prop} {a b : Nat} {x2 : Int32}
    (h : ((M.1 89 a 0) ≤ x2 → Q (none) M) ∧ (¬ (M.1 89 a 0) ≤ x2 → inb x2 8 ∧ inb x2 8 ∧ ∀ M1, M1 = st M 90 a (ix x2) (M.1 90 b (ix x2)) → inb x2 8 ∧ inb x2 8 ∧ ∀ M2, M2 = st M1 91 a (ix x2) (M1.1 91 b (ix x2)) → V X (d + 1) 88 18 [some (vR 89 a), some (vR 89 b), some (vI (x2 + 1))] [] M2 Q)) :
    V X (d + 1) 88 18 [some (vR 89 a), some (vR 89 b), some (vI x2)] [] M Q := wpn_sound (cuts := [(18, [true, true, true])]) ok88 23 18 _ _ _ h
theorem e88_89 {X : Cx} {d : Nat} {M M2 : Mem} {a b : Nat} (h : V X d 88 0 [some (vR 89 a), some (vR 89 b), none] [] M (fun r' M' => r' = none ∧ M' = M2)) : CC X d 88 [vR 89 a, vR 89 b] M none M2 := CC_of (by decide) trivial (Nat.le_of_ble_eq_true rfl) (by simp [c1]) h
-- ClayBoots$Told.become, from 0
set_option maxRecDepth 100000 in
theorem w88_0_92 {X : Cx} {d : Nat} {M : Mem} {Q : Option Vl → Mem → Prop} {a b : Nat}
    (h : ∀ M1, M1 = st M 92 a 0 (if (Int32.ofNat 12) < (M.1 92 b 0) then (Int32.ofNat 12) else (M.1 92 b 0)) → V X (d + 1) 88 18 [some (vR 92 a), some (vR 92 b), some (vI 0)] [] M1 Q) :
    V X (d + 1) 88 0 [some (vR 92 a), some (vR 92 b), none] [] M Q := wpn_sound (cuts := [(18, [true, true, true])]) ok88 11 0 _ _ _ h
-- ClayBoots$Told.become, from 18
set_option maxRecDepth 100000 in
theorem w88_18_92 {X : Cx} {d : Nat} {M : Mem} {Q : Option Vl → Mem → Prop} {a b : Nat} {x2 : Int32}
    (h : ((M.1 92 a 0) ≤ x2 → Q (none) M) ∧ (¬ (M.1 92 a 0) ≤ x2 → inb x2 12 ∧ inb x2 12 ∧ ∀ M1, M1 = st M 93 a (ix x2) (M.1 93 b (ix x2)) → inb x2 12 ∧ inb x2 12 ∧ ∀ M2, M2 = st M1 94 a (ix x2) (M1.1 94 b (ix x2)) → V X (d + 1) 88 18 [some (vR 92 a), some (vR 92 b), some (vI (x2 + 1))] [] M2 Q)) :
    V X (d + 1) 88 18 [some (vR 92 a), some (vR 92 b), some (vI x2)] [] M Q := wpn_sound (cuts := [(18, [true, true, true])]) ok88 23 18 _ _ _ h
theorem e88_92 {X : Cx} {d : Nat} {M M2 : Mem} {a b : Nat} (h : V X d 88 0 [some (vR 92 a), some (vR 92 b), none] [] M (fun r' M' => r' = none ∧ M' = M2)) : CC X d 88 [vR 92 a, vR 92 b] M none M2 := CC_of (by decide) trivial (Nat.le_of_ble_eq_true rfl) (by simp [c1]) h
-- ClayBoots$Walk.asks, from 0
set_option maxRecDepth 100000 in
theorem w89_0 {X : Cx} {d : Nat} {M : Mem} {Q : Option Vl → Mem → Prop} {a : Nat} {p0 p1 p2 p3 : Int32}
    (h : ∃ (r1 : Int32) (M1 : Mem), CC X d 57 [vR 20 a, vI p1] M (some (vI r1)) M1 ∧ (¬ r1 = 0 → inb p1 12 ∧ inb 0 10 ∧ ∀ M2, M2 = st M1 12 a (ix 0) (M1.1 26 a (ix p1)) → inb p1 12 ∧ inb 1 10 ∧ ∀ M3, M3 = st M2 12 a (ix 1) (M2.1 27 a (ix p1)) → ∃ (r2 : Int32) (M4 : Mem), CC X d 55 [vR 20 a, vI p2] M3 (some (vI r2)) M4 ∧ (r2 = 0 → inb 2 10 ∧ ∀ M5, M5 = st M4 12 a (ix 2) 0 → ∃ (r3 : Int32) (M6 : Mem), CC X d 55 [vR 20 a, vI p2] M5 (some (vI r3)) M6 ∧ (r3 = 0 → inb 3 10 ∧ ∀ M7, M7 = st M6 12 a (ix 3) 0 → ∃ (r4 : Int32) (M8 : Mem), CC X d 63 [vR 20 a, vI p1] M7 (some (vI r4)) M8 ∧ inb 4 10 ∧ ∀ M9, M9 = st M8 12 a (ix 4) r4 → inb 5 10 ∧ ∀ M10, M10 = st M9 12 a (ix 5) (M9.1 20 a 1) → inb 6 10 ∧ ∀ M11, M11 = st M10 12 a (ix 6) (M10.1 20 a 2) → ∃ (r5 : Int32) (M12 : Mem), CC X d 56 [vR 20 a, vI p3] M11 (some (vI r5)) M12 ∧ (r5 = 0 → inb 7 10 ∧ ∀ M13, M13 = st M12 12 a (ix 7) 0 → inb p1 12 ∧ inb 8 10 ∧ ∀ M14, M14 = st M13 12 a (ix 8) (M13.1 28 a (ix p1)) → inb 9 10 ∧ ∀ M15, M15 = st M14 12 a (ix 9) (M14.1 20 a 4) → (¬ p0 = 10010 → ∃ (r6 : Int32) (M16 : Mem), CC X d 5 [vR 40 0, vI p0, vR 12 a] M15 (some (vI r6)) M16 ∧ Q (some (vI (if 0 < (if r6 < 1000 then r6 else 1000) then (if r6 < 1000 then r6 else 1000) else 0))) M16) ∧ (p0 = 10010 → ∃ (r7 : Int32) (M17 : Mem), CC X d 5 [vR 40 0, vI p0, vR 12 a] M15 (some (vI r7)) M17 ∧ Q (some (vI (if 0 < (if r7 < 99 then r7 else 99) then (if r7 < 99 then r7 else 99) else 0))) M17)) ∧ (¬ r5 = 0 → inb p3 8 ∧ inb 7 10 ∧ ∀ M18, M18 = st M12 12 a (ix 7) (M12.1 23 a (ix p3)) → inb p1 12 ∧ inb 8 10 ∧ ∀ M19, M19 = st M18 12 a (ix 8) (M18.1 28 a (ix p1)) → inb 9 10 ∧ ∀ M20, M20 = st M19 12 a (ix 9) (M19.1 20 a 4) → (¬ p0 = 10010 → ∃ (r8 : Int32) (M21 : Mem), CC X d 5 [vR 40 0, vI p0, vR 12 a] M20 (some (vI r8)) M21 ∧ Q (some (vI (if 0 < (if r8 < 1000 then r8 else 1000) then (if r8 < 1000 then r8 else 1000) else 0))) M21) ∧ (p0 = 10010 → ∃ (r9 : Int32) (M22 : Mem), CC X d 5 [vR 40 0, vI p0, vR 12 a] M20 (some (vI r9)) M22 ∧ Q (some (vI (if 0 < (if r9 < 99 then r9 else 99) then (if r9 < 99 then r9 else 99) else 0))) M22))) ∧ (¬ r3 = 0 → inb p2 10 ∧ inb 3 10 ∧ ∀ M23, M23 = st M6 12 a (ix 3) (M6.1 22 a (ix p2)) → ∃ (r10 : Int32) (M24 : Mem), CC X d 63 [vR 20 a, vI p1] M23 (some (vI r10)) M24 ∧ inb 4 10 ∧ ∀ M25, M25 = st M24 12 a (ix 4) r10 → inb 5 10 ∧ ∀ M26, M26 = st M25 12 a (ix 5) (M25.1 20 a 1) → inb 6 10 ∧ ∀ M27, M27 = st M26 12 a (ix 6) (M26.1 20 a 2) → ∃ (r11 : Int32) (M28 : Mem), CC X d 56 [vR 20 a, vI p3] M27 (some (vI r11)) M28 ∧ (r11 = 0 → inb 7 10 ∧ ∀ M29, M29 = st M28 12 a (ix 7) 0 → inb p1 12 ∧ inb 8 10 ∧ ∀ M30, M30 = st M29 12 a (ix 8) (M29.1 28 a (ix p1)) → inb 9 10 ∧ ∀ M31, M31 = st M30 12 a (ix 9) (M30.1 20 a 4) → (¬ p0 = 10010 → ∃ (r12 : Int32) (M32 : Mem), CC X d 5 [vR 40 0, vI p0, vR 12 a] M31 (some (vI r12)) M32 ∧ Q (some (vI (if 0 < (if r12 < 1000 then r12 else 1000) then (if r12 < 1000 then r12 else 1000) else 0))) M32) ∧ (p0 = 10010 → ∃ (r13 : Int32) (M33 : Mem), CC X d 5 [vR 40 0, vI p0, vR 12 a] M31 (some (vI r13)) M33 ∧ Q (some (vI (if 0 < (if r13 < 99 then r13 else 99) then (if r13 < 99 then r13 else 99) else 0))) M33)) ∧ (¬ r11 = 0 → inb p3 8 ∧ inb 7 10 ∧ ∀ M34, M34 = st M28 12 a (ix 7) (M28.1 23 a (ix p3)) → inb p1 12 ∧ inb 8 10 ∧ ∀ M35, M35 = st M34 12 a (ix 8) (M34.1 28 a (ix p1)) → inb 9 10 ∧ ∀ M36, M36 = st M35 12 a (ix 9) (M35.1 20 a 4) → (¬ p0 = 10010 → ∃ (r14 : Int32) (M37 : Mem), CC X d 5 [vR 40 0, vI p0, vR 12 a] M36 (some (vI r14)) M37 ∧ Q (some (vI (if 0 < (if r14 < 1000 then r14 else 1000) then (if r14 < 1000 then r14 else 1000) else 0))) M37) ∧ (p0 = 10010 → ∃ (r15 : Int32) (M38 : Mem), CC X d 5 [vR 40 0, vI p0, vR 12 a] M36 (some (vI r15)) M38 ∧ Q (some (vI (if 0 < (if r15 < 99 then r15 else 99) then (if r15 < 99 then r15 else 99) else 0))) M38)))) ∧ (¬ r2 = 0 → inb p2 10 ∧ inb 2 10 ∧ ∀ M39, M39 = st M4 12 a (ix 2) (M4.1 21 a (ix p2)) → ∃ (r16 : Int32) (M40 : Mem), CC X d 55 [vR 20 a, vI p2] M39 (some (vI r16)) M40 ∧ (r16 = 0 → inb 3 10 ∧ ∀ M41, M41 = st M40 12 a (ix 3) 0 → ∃ (r17 : Int32) (M42 : Mem), CC X d 63 [vR 20 a, vI p1] M41 (some (vI r17)) M42 ∧ inb 4 10 ∧ ∀ M43, M43 = st M42 12 a (ix 4) r17 → inb 5 10 ∧ ∀ M44, M44 = st M43 12 a (ix 5) (M43.1 20 a 1) → inb 6 10 ∧ ∀ M45, M45 = st M44 12 a (ix 6) (M44.1 20 a 2) → ∃ (r18 : Int32) (M46 : Mem), CC X d 56 [vR 20 a, vI p3] M45 (some (vI r18)) M46 ∧ (r18 = 0 → inb 7 10 ∧ ∀ M47, M47 = st M46 12 a (ix 7) 0 → inb p1 12 ∧ inb 8 10 ∧ ∀ M48, M48 = st M47 12 a (ix 8) (M47.1 28 a (ix p1)) → inb 9 10 ∧ ∀ M49, M49 = st M48 12 a (ix 9) (M48.1 20 a 4) → (¬ p0 = 10010 → ∃ (r19 : Int32) (M50 : Mem), CC X d 5 [vR 40 0, vI p0, vR 12 a] M49 (some (vI r19)) M50 ∧ Q (some (vI (if 0 < (if r19 < 1000 then r19 else 1000) then (if r19 < 1000 then r19 else 1000) else 0))) M50) ∧ (p0 = 10010 → ∃ (r20 : Int32) (M51 : Mem), CC X d 5 [vR 40 0, vI p0, vR 12 a] M49 (some (vI r20)) M51 ∧ Q (some (vI (if 0 < (if r20 < 99 then r20 else 99) then (if r20 < 99 then r20 else 99) else 0))) M51)) ∧ (¬ r18 = 0 → inb p3 8 ∧ inb 7 10 ∧ ∀ M52, M52 = st M46 12 a (ix 7) (M46.1 23 a (ix p3)) → inb p1 12 ∧ inb 8 10 ∧ ∀ M53, M53 = st M52 12 a (ix 8) (M52.1 28 a (ix p1)) → inb 9 10 ∧ ∀ M54, M54 = st M53 12 a (ix 9) (M53.1 20 a 4) → (¬ p0 = 10010 → ∃ (r21 : Int32) (M55 : Mem), CC X d 5 [vR 40 0, vI p0, vR 12 a] M54 (some (vI r21)) M55 ∧ Q (some (vI (if 0 < (if r21 < 1000 then r21 else 1000) then (if r21 < 1000 then r21 else 1000) else 0))) M55) ∧ (p0 = 10010 → ∃ (r22 : Int32) (M56 : Mem), CC X d 5 [vR 40 0, vI p0, vR 12 a] M54 (some (vI r22)) M56 ∧ Q (some (vI (if 0 < (if r22 < 99 then r22 else 99) then (if r22 < 99 then r22 else 99) else 0))) M56))) ∧ (¬ r16 = 0 → inb p2 10 ∧ inb 3 10 ∧ ∀ M57, M57 = st M40 12 a (ix 3) (M40.1 22 a (ix p2)) → ∃ (r23 : Int32) (M58 : Mem), CC X d 63 [vR 20 a, vI p1] M57 (some (vI r23)) M58 ∧ inb 4 10 ∧ ∀ M59, M59 = st M58 12 a (ix 4) r23 → inb 5 10 ∧ ∀ M60, M60 = st M59 12 a (ix 5) (M59.1 20 a 1) → inb 6 10 ∧ ∀ M61, M61 = st M60 12 a (ix 6) (M60.1 20 a 2) → ∃ (r24 : Int32) (M62 : Mem), CC X d 56 [vR 20 a, vI p3] M61 (some (vI r24)) M62 ∧ (r24 = 0 → inb 7 10 ∧ ∀ M63, M63 = st M62 12 a (ix 7) 0 → inb p1 12 ∧ inb 8 10 ∧ ∀ M64, M64 = st M63 12 a (ix 8) (M63.1 28 a (ix p1)) → inb 9 10 ∧ ∀ M65, M65 = st M64 12 a (ix 9) (M64.1 20 a 4) → (¬ p0 = 10010 → ∃ (r25 : Int32) (M66 : Mem), CC X d 5 [vR 40 0, vI p0, vR 12 a] M65 (some (vI r25)) M66 ∧ Q (some (vI (if 0 < (if r25 < 1000 then r25 else 1000) then (if r25 < 1000 then r25 else 1000) else 0))) M66) ∧ (p0 = 10010 → ∃ (r26 : Int32) (M67 : Mem), CC X d 5 [vR 40 0, vI p0, vR 12 a] M65 (some (vI r26)) M67 ∧ Q (some (vI (if 0 < (if r26 < 99 then r26 else 99) then (if r26 < 99 then r26 else 99) else 0))) M67)) ∧ (¬ r24 = 0 → inb p3 8 ∧ inb 7 10 ∧ ∀ M68, M68 = st M62 12 a (ix 7) (M62.1 23 a (ix p3)) → inb p1 12 ∧ inb 8 10 ∧ ∀ M69, M69 = st M68 12 a (ix 8) (M68.1 28 a (ix p1)) → inb 9 10 ∧ ∀ M70, M70 = st M69 12 a (ix 9) (M69.1 20 a 4) → (¬ p0 = 10010 → ∃ (r27 : Int32) (M71 : Mem), CC X d 5 [vR 40 0, vI p0, vR 12 a] M70 (some (vI r27)) M71 ∧ Q (some (vI (if 0 < (if r27 < 1000 then r27 else 1000) then (if r27 < 1000 then r27 else 1000) else 0))) M71) ∧ (p0 = 10010 → ∃ (r28 : Int32) (M72 : Mem), CC X d 5 [vR 40 0, vI p0, vR 12 a] M70 (some (vI r28)) M72 ∧ Q (some (vI (if 0 < (if r28 < 99 then r28 else 99) then (if r28 < 99 then r28 else 99) else 0))) M72))))) ∧ (r1 = 0 → Q (some (vI 0)) M1)) :
    V X (d + 1) 89 0 [some (vR 11 a), some (vI p0), some (vI p1), some (vI p2), some (vI p3), none] [] M Q := wpn_sound (cuts := []) ok89 124 0 _ _ _ h
theorem e89 {X : Cx} {d : Nat} {M M2 : Mem} {a : Nat} {p0 p1 p2 p3 : Int32} {r : Int32} (h : V X d 89 0 [some (vR 11 a), some (vI p0), some (vI p1), some (vI p2), some (vI p3), none] [] M (fun r' M' => r' = (some (vI r)) ∧ M' = M2)) : CC X d 89 [vR 11 a, vI p0, vI p1, vI p2, vI p3] M (some (vI r)) M2 := CC_of (by decide) trivial (Nat.le_of_ble_eq_true rfl) (by simp [c1]) h
-- ClayBoots$Walk.visit, from 0
set_option maxRecDepth 100000 in
theorem w90_0 {X : Cx} {d : Nat} {M : Mem} {Q : Option Vl → Mem → Prop} {a : Nat} {p0 p1 p2 : Int32}
    (h : ∃ (r1 : Int32) (M1 : Mem), CC X d 57 [vR 20 a, vI p0] M (some (vI r1)) M1 ∧ (r1 = 0 → Q (some (vI 0)) M1) ∧ (¬ r1 = 0 → ∃ (r2 : Int32) (M2 : Mem), CC X d 56 [vR 20 a, vI p2] M1 (some (vI r2)) M2 ∧ (¬ r2 = 0 → ∃ (r3 : Int32) (M3 : Mem), CC X d 149 [vI p1] M2 (some (vI r3)) M3 ∧ ¬ (10 : Int32) = 0 ∧ V X (d + 1) 90 33 [some (vR 11 a), some (vI p0), some (vI p1), some (vI p2), some (vI (r3 / 10))] [] M3 Q) ∧ (r2 = 0 → Q (some (vI 0)) M2))) :
    V X (d + 1) 90 0 [some (vR 11 a), some (vI p0), some (vI p1), some (vI p2), none] [] M Q := wpn_sound (cuts := [(33, [true, true, true, true, true])]) ok90 16 0 _ _ _ h
-- ClayBoots$Walk.visit, from 33
set_option maxRecDepth 100000 in
theorem w90_33 {X : Cx} {d : Nat} {M : Mem} {Q : Option Vl → Mem → Prop} {a : Nat} {x1 x2 x3 x4 : Int32}
    (h : (x4 ≤ 0 → ∃ (r1 : Int32) (M1 : Mem), CC X d 92 [vR 11 a, vI x1, vI x3] M (some (vI r1)) M1 ∧ (r1 = 0 → ∀ M2, M2 = st M1 11 a 5 x3 → ∃ (r2 : Int32) (M3 : Mem), CC X d 94 [vR 11 a, vI x1, vI (M2.1 11 a 5)] M2 (some (vI r2)) M3 ∧ inb x1 12 ∧ inb x1 12 ∧ ∀ M4, M4 = st M3 28 a (ix x1) ((M3.1 28 a (ix x1)) + 1) → (¬ (M4.1 11 a 3) = 0 → Q (some (vI r2)) M4) ∧ ((M4.1 11 a 3) = 0 → ∃ (M5 : Mem), CC X d 0 [vR 30 a, vI (M4.1 20 a 4), vI 0, vI x1, vI (M4.1 11 a 5)] M4 none M5 ∧ (r2 ≤ 0 → Q (some (vI r2)) M5) ∧ (¬ r2 ≤ 0 → ∃ (M6 : Mem), CC X d 0 [vR 30 a, vI (M5.1 20 a 4), vI 1, vI x1, vI r2] M5 none M6 ∧ Q (some (vI r2)) M6))) ∧ (¬ r1 = 0 → ∃ (r3 : Int32) (M7 : Mem), CC X d 93 [vR 11 a, vI x3] M1 (some (vI r3)) M7 ∧ ∀ M8, M8 = st M7 11 a 5 r3 → ∃ (r4 : Int32) (M9 : Mem), CC X d 94 [vR 11 a, vI x1, vI (M8.1 11 a 5)] M8 (some (vI r4)) M9 ∧ inb x1 12 ∧ inb x1 12 ∧ ∀ M10, M10 = st M9 28 a (ix x1) ((M9.1 28 a (ix x1)) + 1) → (¬ (M10.1 11 a 3) = 0 → Q (some (vI r4)) M10) ∧ ((M10.1 11 a 3) = 0 → ∃ (M11 : Mem), CC X d 0 [vR 30 a, vI (M10.1 20 a 4), vI 0, vI x1, vI (M10.1 11 a 5)] M10 none M11 ∧ (r4 ≤ 0 → Q (some (vI r4)) M11) ∧ (¬ r4 ≤ 0 → ∃ (M12 : Mem), CC X d 0 [vR 30 a, vI (M11.1 20 a 4), vI 1, vI x1, vI r4] M11 none M12 ∧ Q (some (vI r4)) M12)))) ∧ (¬ x4 ≤ 0 → ¬ x4 = 0 ∧ ¬ (10 : Int32) = 0 ∧ ∃ (M13 : Mem), CC X d 91 [vR 11 a, vI x1, vI ((x2 / x4) % 10)] M none M13 ∧ ¬ (10 : Int32) = 0 ∧ V X (d + 1) 90 33 [some (vR 11 a), some (vI x1), some (vI x2), some (vI x3), some (vI (x4 / 10))] [] M13 Q)) :
    V X (d + 1) 90 33 [some (vR 11 a), some (vI x1), some (vI x2), some (vI x3), some (vI x4)] [] M Q := wpn_sound (cuts := [(33, [true, true, true, true, true])]) ok90 57 33 _ _ _ h
theorem e90 {X : Cx} {d : Nat} {M M2 : Mem} {a : Nat} {p0 p1 p2 : Int32} {r : Int32} (h : V X d 90 0 [some (vR 11 a), some (vI p0), some (vI p1), some (vI p2), none] [] M (fun r' M' => r' = (some (vI r)) ∧ M' = M2)) : CC X d 90 [vR 11 a, vI p0, vI p1, vI p2] M (some (vI r)) M2 := CC_of (by decide) trivial (Nat.le_of_ble_eq_true rfl) (by simp [c1]) h
-- ClayBoots$Walk.takeUp, from 0
set_option maxRecDepth 100000 in
theorem w91_0 {X : Cx} {d : Nat} {M : Mem} {Q : Option Vl → Mem → Prop} {a : Nat} {p0 p1 : Int32}
    (h : ∃ (r1 : Int32) (M1 : Mem), CC X d 55 [vR 20 a, vI p1] M (some (vI r1)) M1 ∧ (r1 = 0 → Q (none) M1) ∧ (¬ r1 = 0 → ∃ (r2 : Int32) (M2 : Mem), CC X d 57 [vR 20 a, vI p0] M1 (some (vI r2)) M2 ∧ (¬ r2 = 0 → inb p0 12 ∧ ∃ (r3 : Int32) (M3 : Mem), CC X d 63 [vR 20 a, vI p0] M2 (some (vI r3)) M3 ∧ ∃ (r4 : Int32) (M4 : Mem), CC X d 89 [vR 11 a, vI 10010, vI p0, vI p1, vI (-1)] M3 (some (vI r4)) M4 ∧ inb p1 10 ∧ inb p1 10 ∧ inb p1 10 ∧ ∀ M5, M5 = st M4 22 a (ix p1) ((M4.1 22 a (ix p1)) - (if (if ((10 * (M2.1 26 a (ix p0))) - r3) < (M4.1 22 a (ix p1)) then ((10 * (M2.1 26 a (ix p0))) - r3) else (M4.1 22 a (ix p1))) < r4 then (if ((10 * (M2.1 26 a (ix p0))) - r3) < (M4.1 22 a (ix p1)) then ((10 * (M2.1 26 a (ix p0))) - r3) else (M4.1 22 a (ix p1))) else r4)) → inb ((p0 * 10) + p1) 120 ∧ inb ((p0 * 10) + p1) 120 ∧ ∀ M6, M6 = st M5 29 a (ix ((p0 * 10) + p1)) ((M5.1 29 a (ix ((p0 * 10) + p1))) + (if (if ((10 * (M2.1 26 a (ix p0))) - r3) < (M4.1 22 a (ix p1)) then ((10 * (M2.1 26 a (ix p0))) - r3) else (M4.1 22 a (ix p1))) < r4 then (if ((10 * (M2.1 26 a (ix p0))) - r3) < (M4.1 22 a (ix p1)) then ((10 * (M2.1 26 a (ix p0))) - r3) else (M4.1 22 a (ix p1))) else r4)) → Q (none) M6) ∧ (r2 = 0 → Q (none) M2))) :
    V X (d + 1) 91 0 [some (vR 11 a), some (vI p0), some (vI p1), none, none] [] M Q := wpn_sound (cuts := []) ok91 62 0 _ _ _ h
theorem e91 {X : Cx} {d : Nat} {M M2 : Mem} {a : Nat} {p0 p1 : Int32} (h : V X d 91 0 [some (vR 11 a), some (vI p0), some (vI p1), none, none] [] M (fun r' M' => r' = none ∧ M' = M2)) : CC X d 91 [vR 11 a, vI p0, vI p1] M none M2 := CC_of (by decide) trivial (Nat.le_of_ble_eq_true rfl) (by simp [c1]) h
-- ClayBoots$Walk.straysFrom, from 0
set_option maxRecDepth 100000 in
theorem w92_0 {X : Cx} {d : Nat} {M : Mem} {Q : Option Vl → Mem → Prop} {a : Nat} {p0 p1 : Int32}
    (h : ∃ (r1 : Int32) (M1 : Mem), CC X d 89 [vR 11 a, vI 10012, vI p0, vI (-1), vI p1] M (some (vI r1)) M1 ∧ ((M1.1 11 a 3) = 0 → (¬ r1 = 0 → ∃ (r2 : Int32) (M2 : Mem), CC X d 147 [vI (M1.1 20 a 0)] M1 (some (vI r2)) M2 ∧ ∀ M3, M3 = st M2 20 a 0 r2 → ∃ (r3 : Int32) (M4 : Mem), CC X d 148 [vI (M3.1 20 a 0), vI 1000] M3 (some (vI r3)) M4 ∧ (r1 ≤ r3 → isB 0 ∧ Q (some (vI 0)) M4) ∧ (¬ r1 ≤ r3 → isB 1 ∧ Q (some (vI 1)) M4)) ∧ (r1 = 0 → isB 0 ∧ Q (some (vI 0)) M1)) ∧ (¬ (M1.1 11 a 3) = 0 → (r1 < 500 → isB 0 ∧ Q (some (vI 0)) M1) ∧ (¬ r1 < 500 → isB 1 ∧ Q (some (vI 1)) M1))) :
    V X (d + 1) 92 0 [some (vR 11 a), some (vI p0), some (vI p1), none] [] M Q := wpn_sound (cuts := []) ok92 30 0 _ _ _ h
theorem e92 {X : Cx} {d : Nat} {M M2 : Mem} {a : Nat} {p0 p1 : Int32} {r : Int32} (h : V X d 92 0 [some (vR 11 a), some (vI p0), some (vI p1), none] [] M (fun r' M' => r' = (some (vI r)) ∧ M' = M2)) : CC X d 92 [vR 11 a, vI p0, vI p1] M (some (vI r)) M2 := CC_of (by decide) trivial (Nat.le_of_ble_eq_true rfl) (by simp [c1]) h
-- ClayBoots$Walk.nextDoor, from 0
set_option maxRecDepth 100000 in
theorem w93_0 {X : Cx} {d : Nat} {M : Mem} {Q : Option Vl → Mem → Prop} {a : Nat} {p0 : Int32}
    (h : ∃ (r1 : Int32) (M1 : Mem), CC X d 56 [vR 20 a, vI (p0 + 1)] M (some (vI r1)) M1 ∧ (r1 = 0 → Q (some (vI 0)) M1) ∧ (¬ r1 = 0 → Q (some (vI (p0 + 1))) M1)) :
    V X (d + 1) 93 0 [some (vR 11 a), some (vI p0)] [] M Q := wpn_sound (cuts := []) ok93 13 0 _ _ _ h
theorem e93 {X : Cx} {d : Nat} {M M2 : Mem} {a : Nat} {p0 : Int32} {r : Int32} (h : V X d 93 0 [some (vR 11 a), some (vI p0)] [] M (fun r' M' => r' = (some (vI r)) ∧ M' = M2)) : CC X d 93 [vR 11 a, vI p0] M (some (vI r)) M2 := CC_of (by decide) trivial (Nat.le_of_ble_eq_true rfl) (by simp [c1]) h
-- ClayBoots$Walk.leaveAt, from 0
set_option maxRecDepth 100000 in
theorem w94_0 {X : Cx} {d : Nat} {M : Mem} {Q : Option Vl → Mem → Prop} {a : Nat} {p0 p1 : Int32}
    (h : ∃ (r1 : Int32) (M1 : Mem), CC X d 57 [vR 20 a, vI p0] M (some (vI r1)) M1 ∧ (r1 = 0 → Q (some (vI 0)) M1) ∧ (¬ r1 = 0 → ∃ (r2 : Int32) (M2 : Mem), CC X d 56 [vR 20 a, vI p1] M1 (some (vI r2)) M2 ∧ (r2 = 0 → Q (some (vI 0)) M2) ∧ (¬ r2 = 0 → ((M2.1 20 a 2) = 1 → Q (some (vI 0)) M2) ∧ (¬ (M2.1 20 a 2) = 1 → inb p1 8 ∧ (¬ (M2.1 23 a (ix p1)) = 1 → V X (d + 1) 94 53 [some (vR 11 a), some (vI p0), some (vI p1), some (vI 0), some (vI 0), none, none] [] M2 Q) ∧ ((M2.1 23 a (ix p1)) = 1 → Q (some (vI 0)) M2))))) :
    V X (d + 1) 94 0 [some (vR 11 a), some (vI p0), some (vI p1), none, none, none, none] [] M Q := wpn_sound (cuts := [(53, [true, true, true, true, true, false, false])]) ok94 27 0 _ _ _ h
-- ClayBoots$Walk.leaveAt, from 53
set_option maxRecDepth 100000 in
theorem w94_53 {X : Cx} {d : Nat} {M : Mem} {Q : Option Vl → Mem → Prop} {a : Nat} {x1 x2 x3 x4 : Int32}
    (h : (10 ≤ x4 → ∀ M1, M1 = st M 20 a 3 ((M.1 20 a 3) + x3) → Q (some (vI x3)) M1) ∧ (¬ 10 ≤ x4 → inb ((x1 * 10) + x4) 120 ∧ ((M.1 29 a (ix ((x1 * 10) + x4))) ≤ 0 → V X (d + 1) 94 53 [some (vR 11 a), some (vI x1), some (vI x2), some (vI x3), some (vI (x4 + 1)), none, none] [] M Q) ∧ (¬ (M.1 29 a (ix ((x1 * 10) + x4))) ≤ 0 → ∃ (r1 : Int32) (M2 : Mem), CC X d 89 [vR 11 a, vI 10011, vI x1, vI x4, vI x2] M (some (vI r1)) M2 ∧ ¬ (1000 : Int32) = 0 ∧ inb ((x1 * 10) + x4) 120 ∧ inb ((x1 * 10) + x4) 120 ∧ ∀ M3, M3 = st M2 29 a (ix ((x1 * 10) + x4)) ((M2.1 29 a (ix ((x1 * 10) + x4))) - (((M.1 29 a (ix ((x1 * 10) + x4))) * r1) / 1000)) → inb ((x2 * 10) + x4) 80 ∧ inb ((x2 * 10) + x4) 80 ∧ ∀ M4, M4 = st M3 24 a (ix ((x2 * 10) + x4)) ((M3.1 24 a (ix ((x2 * 10) + x4))) + (((M.1 29 a (ix ((x1 * 10) + x4))) * r1) / 1000)) → V X (d + 1) 94 53 [some (vR 11 a), some (vI x1), some (vI x2), some (vI (x3 + (((M.1 29 a (ix ((x1 * 10) + x4))) * r1) / 1000))), some (vI (x4 + 1)), none, none] [] M4 Q))) :
    V X (d + 1) 94 53 [some (vR 11 a), some (vI x1), some (vI x2), some (vI x3), some (vI x4), none, none] [] M Q := wpn_sound (cuts := [(53, [true, true, true, true, true, false, false])]) ok94 59 53 _ _ _ h
theorem e94 {X : Cx} {d : Nat} {M M2 : Mem} {a : Nat} {p0 p1 : Int32} {r : Int32} (h : V X d 94 0 [some (vR 11 a), some (vI p0), some (vI p1), none, none, none, none] [] M (fun r' M' => r' = (some (vI r)) ∧ M' = M2)) : CC X d 94 [vR 11 a, vI p0, vI p1] M (some (vI r)) M2 := CC_of (by decide) trivial (Nat.le_of_ble_eq_true rfl) (by simp [c1]) h
-- ClayBoots$Walk.passDay, from 0
set_option maxRecDepth 100000 in
theorem w95_0 {X : Cx} {d : Nat} {M : Mem} {Q : Option Vl → Mem → Prop} {a : Nat}
    (h : ∃ (M1 : Mem), CC X d 16 [vR 50 0, vR 20 a] M none M1 ∧ V X (d + 1) 95 15 [some (vR 11 a), some (vI 0), some (vI 0)] [] M1 Q) :
    V X (d + 1) 95 0 [some (vR 11 a), none, none] [] M Q := wpn_sound (cuts := [(15, [true, true, true]), (94, [true, true, true])]) ok95 10 0 _ _ _ h
-- ClayBoots$Walk.passDay, from 15
set_option maxRecDepth 100000 in
theorem w95_15 {X : Cx} {d : Nat} {M : Mem} {Q : Option Vl → Mem → Prop} {a : Nat} {x1 x2 : Int32}
    (h : ((M.1 50 0 0) ≤ x2 → V X (d + 1) 95 94 [some (vR 11 a), some (vI x1), some (vI 0)] [] M Q) ∧ (¬ (M.1 50 0 0) ≤ x2 → (16 ≤ x2 → V X (d + 1) 95 94 [some (vR 11 a), some (vI x1), some (vI 0)] [] M Q) ∧ (¬ 16 ≤ x2 → inb x2 16 ∧ (¬ (M.1 53 0 (ix x2)) = (M.1 20 a 4) → V X (d + 1) 95 15 [some (vR 11 a), some (vI x1), some (vI (x2 + 1))] [] M Q) ∧ ((M.1 53 0 (ix x2)) = (M.1 20 a 4) → inb x2 16 ∧ inb x2 16 ∧ inb x2 16 ∧ ∃ (r1 : Int32) (M1 : Mem), CC X d 90 [vR 11 a, vI (M.1 54 0 (ix x2)), vI (M.1 55 0 (ix x2)), vI (M.1 56 0 (ix x2))] M (some (vI r1)) M1 ∧ V X (d + 1) 95 15 [some (vR 11 a), some (vI (x1 + 1)), some (vI (x2 + 1))] [] M1 Q)))) :
    V X (d + 1) 95 15 [some (vR 11 a), some (vI x1), some (vI x2)] [] M Q := wpn_sound (cuts := [(15, [true, true, true]), (94, [true, true, true])]) ok95 39 15 _ _ _ h
-- ClayBoots$Walk.passDay, from 94
set_option maxRecDepth 100000 in
theorem w95_94 {X : Cx} {d : Nat} {M : Mem} {Q : Option Vl → Mem → Prop} {a : Nat} {x1 x2 : Int32}
    (h : ((M.1 20 a 7) ≤ x2 → ∀ M1, M1 = st M 20 a 4 ((M.1 20 a 4) + 1) → Q (some (vI x1)) M1) ∧ (¬ (M.1 20 a 7) ≤ x2 → (¬ (M.1 20 a 2) = 0 → ∀ M2, M2 = st M 20 a 4 ((M.1 20 a 4) + 1) → Q (some (vI x1)) M2) ∧ ((M.1 20 a 2) = 0 → ∃ (M3 : Mem), CC X d 96 [vR 11 a, vI x2] M none M3 ∧ V X (d + 1) 95 94 [some (vR 11 a), some (vI x1), some (vI (x2 + 1))] [] M3 Q))) :
    V X (d + 1) 95 94 [some (vR 11 a), some (vI x1), some (vI x2)] [] M Q := wpn_sound (cuts := [(15, [true, true, true]), (94, [true, true, true])]) ok95 19 94 _ _ _ h
theorem e95 {X : Cx} {d : Nat} {M M2 : Mem} {a : Nat} {r : Int32} (h : V X d 95 0 [some (vR 11 a), none, none] [] M (fun r' M' => r' = (some (vI r)) ∧ M' = M2)) : CC X d 95 [vR 11 a] M (some (vI r)) M2 := CC_of (by decide) trivial (Nat.le_of_ble_eq_true rfl) (by simp [c1]) h
-- ClayBoots$Walk.dropAtHome, from 0
set_option maxRecDepth 100000 in
theorem w96_0 {X : Cx} {d : Nat} {M : Mem} {Q : Option Vl → Mem → Prop} {a : Nat} {p0 : Int32}
    (h : ∃ (r1 : Int32) (M1 : Mem), CC X d 57 [vR 20 a, vI p0] M (some (vI r1)) M1 ∧ (r1 = 0 → ∃ (r2 : Int32) (M2 : Mem), CC X d 56 [vR 20 a, vI (-1)] M1 (some (vI r2)) M2 ∧ (¬ r2 = 0 → V X (d + 1) 96 42 [some (vR 11 a), some (vI p0), some (vI (-1)), some (vI 0), some (vI 0), none] [] M2 Q) ∧ (r2 = 0 → Q (none) M2)) ∧ (¬ r1 = 0 → inb p0 12 ∧ ∃ (r3 : Int32) (M3 : Mem), CC X d 56 [vR 20 a, vI (M1.1 25 a (ix p0))] M1 (some (vI r3)) M3 ∧ (¬ r3 = 0 → V X (d + 1) 96 42 [some (vR 11 a), some (vI p0), some (vI (M1.1 25 a (ix p0))), some (vI 0), some (vI 0), none] [] M3 Q) ∧ (r3 = 0 → Q (none) M3))) :
    V X (d + 1) 96 0 [some (vR 11 a), some (vI p0), none, none, none, none] [] M Q := wpn_sound (cuts := [(42, [true, true, true, true, true, false])]) ok96 22 0 _ _ _ h
-- ClayBoots$Walk.dropAtHome, from 42
set_option maxRecDepth 100000 in
theorem w96_42 {X : Cx} {d : Nat} {M : Mem} {Q : Option Vl → Mem → Prop} {a : Nat} {x1 x2 x3 x4 : Int32}
    (h : (10 ≤ x4 → (x3 ≤ 0 → Q (none) M) ∧ (¬ x3 ≤ 0 → (¬ (M.1 11 a 3) = 0 → Q (none) M) ∧ ((M.1 11 a 3) = 0 → ∃ (M1 : Mem), CC X d 0 [vR 30 a, vI (M.1 20 a 4), vI 2, vI x1, vI x3] M none M1 ∧ Q (none) M1))) ∧ (¬ 10 ≤ x4 → inb ((x1 * 10) + x4) 120 ∧ ¬ (2 : Int32) = 0 ∧ inb ((x1 * 10) + x4) 120 ∧ inb ((x1 * 10) + x4) 120 ∧ ∀ M2, M2 = st M 29 a (ix ((x1 * 10) + x4)) ((M.1 29 a (ix ((x1 * 10) + x4))) - ((M.1 29 a (ix ((x1 * 10) + x4))) / 2)) → inb x2 8 ∧ (¬ (M2.1 23 a (ix x2)) = 1 → inb ((x2 * 10) + x4) 80 ∧ inb ((x2 * 10) + x4) 80 ∧ ∀ M3, M3 = st M2 24 a (ix ((x2 * 10) + x4)) ((M2.1 24 a (ix ((x2 * 10) + x4))) + ((M.1 29 a (ix ((x1 * 10) + x4))) / 2)) → V X (d + 1) 96 42 [some (vR 11 a), some (vI x1), some (vI x2), some (vI (x3 + ((M.1 29 a (ix ((x1 * 10) + x4))) / 2))), some (vI (x4 + 1)), none] [] M3 Q) ∧ ((M2.1 23 a (ix x2)) = 1 → ∃ (M4 : Mem), CC X d 70 [vR 20 a, vI x4, vI ((M.1 29 a (ix ((x1 * 10) + x4))) / 2)] M2 none M4 ∧ V X (d + 1) 96 42 [some (vR 11 a), some (vI x1), some (vI x2), some (vI (x3 + ((M.1 29 a (ix ((x1 * 10) + x4))) / 2))), some (vI (x4 + 1)), none] [] M4 Q))) :
    V X (d + 1) 96 42 [some (vR 11 a), some (vI x1), some (vI x2), some (vI x3), some (vI x4), none] [] M Q := wpn_sound (cuts := [(42, [true, true, true, true, true, false])]) ok96 55 42 _ _ _ h
theorem e96 {X : Cx} {d : Nat} {M M2 : Mem} {a : Nat} {p0 : Int32} (h : V X d 96 0 [some (vR 11 a), some (vI p0), none, none, none, none] [] M (fun r' M' => r' = none ∧ M' = M2)) : CC X d 96 [vR 11 a, vI p0] M none M2 := CC_of (by decide) trivial (Nat.le_of_ble_eq_true rfl) (by simp [c1]) h
-- ClayBoots$Walk.sweep, from 0
set_option maxRecDepth 100000 in
theorem w97_0 {X : Cx} {d : Nat} {M : Mem} {Q : Option Vl → Mem → Prop} {a : Nat} {p0 : Int32}
    (h : ∃ (r1 : Int32) (M1 : Mem), CC X d 56 [vR 20 a, vI p0] M (some (vI r1)) M1 ∧ (¬ r1 = 0 → ∃ (r2 : Int32) (M2 : Mem), CC X d 65 [vR 20 a, vI p0] M1 (some (vI r2)) M2 ∧ V X (d + 1) 97 23 [some (vR 11 a), some (vI p0), some (vI r2), some (vI 0)] [] M2 Q) ∧ (r1 = 0 → Q (none) M1)) :
    V X (d + 1) 97 0 [some (vR 11 a), some (vI p0), none, none] [] M Q := wpn_sound (cuts := [(23, [true, true, true, true])]) ok97 13 0 _ _ _ h
-- ClayBoots$Walk.sweep, from 23
set_option maxRecDepth 100000 in
theorem w97_23 {X : Cx} {d : Nat} {M : Mem} {Q : Option Vl → Mem → Prop} {a : Nat} {x1 x2 x3 : Int32}
    (h : (10 ≤ x3 → ∃ (M1 : Mem), CC X d 0 [vR 30 a, vI (M.1 20 a 4), vI 3, vI x1, vI x2] M none M1 ∧ Q (none) M1) ∧ (¬ 10 ≤ x3 → inb ((x1 * 10) + x3) 80 ∧ ∃ (M2 : Mem), CC X d 70 [vR 20 a, vI x3, vI (M.1 24 a (ix ((x1 * 10) + x3)))] M none M2 ∧ inb ((x1 * 10) + x3) 80 ∧ ∀ M3, M3 = st M2 24 a (ix ((x1 * 10) + x3)) 0 → V X (d + 1) 97 23 [some (vR 11 a), some (vI x1), some (vI x2), some (vI (x3 + 1))] [] M3 Q)) :
    V X (d + 1) 97 23 [some (vR 11 a), some (vI x1), some (vI x2), some (vI x3)] [] M Q := wpn_sound (cuts := [(23, [true, true, true, true])]) ok97 29 23 _ _ _ h
theorem e97 {X : Cx} {d : Nat} {M M2 : Mem} {a : Nat} {p0 : Int32} (h : V X d 97 0 [some (vR 11 a), some (vI p0), none, none] [] M (fun r' M' => r' = none ∧ M' = M2)) : CC X d 97 [vR 11 a, vI p0] M none M2 := CC_of (by decide) trivial (Nat.le_of_ble_eq_true rfl) (by simp [c1]) h
-- ClayBoots.state, from 0
set_option maxRecDepth 100000 in
theorem w98_0 {X : Cx} {d : Nat} {M : Mem} {Q : Option Vl → Mem → Prop} {p0 : Int32}
    (h : ∃ (M1 : Mem), CC X d 10 [vR 8 0] M none M1 ∧ ∀ M2, M2 = st M1 20 0 0 p0 → Q (some (vI (M.1 20 0 0))) M2) :
    V X (d + 1) 98 0 [some (vR 2 0), some (vI p0), none] [] M Q := wpn_sound (cuts := []) ok98 14 0 _ _ _ h
theorem e98 {X : Cx} {d : Nat} {M M2 : Mem} {p0 : Int32} {r : Int32} (h : V X d 98 0 [some (vR 2 0), some (vI p0), none] [] M (fun r' M' => r' = (some (vI r)) ∧ M' = M2)) : CC X d 98 [vR 2 0, vI p0] M (some (vI r)) M2 := CC_of (by decide) trivial (Nat.le_of_ble_eq_true rfl) (by simp [c1]) h
-- ClayBoots.field, from 0
set_option maxRecDepth 100000 in
theorem w99_0 {X : Cx} {d : Nat} {M : Mem} {Q : Option Vl → Mem → Prop} {p0 p1 : Int32}
    (h : ∃ (r1 : Int32) (M1 : Mem), CC X d 146 [vI p0, vI 0, vI 5] M (some (vI r1)) M1 ∧ (r1 = 0 → Q (some (vI (-1))) M1) ∧ (¬ r1 = 0 → ∃ (r2 : Int32) (M2 : Mem), CC X d 146 [vI p1, vI 0, vI 9999] M1 (some (vI r2)) M2 ∧ (r2 = 0 → Q (some (vI (-1))) M2) ∧ (¬ r2 = 0 → ((M2.1 20 0 5) < 10 → ∃ (M3 : Mem), CC X d 10 [vR 8 0] M2 none M3 ∧ ∃ (r3 : Int32) (M4 : Mem), CC X d 60 [vR 20 0, vI p0, vI p1] M3 (some (vI r3)) M4 ∧ Q (some (vI r3)) M4) ∧ (¬ (M2.1 20 0 5) < 10 → Q (some (vI (-1))) M2)))) :
    V X (d + 1) 99 0 [some (vR 2 0), some (vI p0), some (vI p1)] [] M Q := wpn_sound (cuts := []) ok99 25 0 _ _ _ h
theorem e99 {X : Cx} {d : Nat} {M M2 : Mem} {p0 p1 : Int32} {r : Int32} (h : V X d 99 0 [some (vR 2 0), some (vI p0), some (vI p1)] [] M (fun r' M' => r' = (some (vI r)) ∧ M' = M2)) : CC X d 99 [vR 2 0, vI p0, vI p1] M (some (vI r)) M2 := CC_of (by decide) trivial (Nat.le_of_ble_eq_true rfl) (by simp [c1]) h
-- ClayBoots.door, from 0
set_option maxRecDepth 100000 in
theorem w100_0 {X : Cx} {d : Nat} {M : Mem} {Q : Option Vl → Mem → Prop} {p0 : Int32}
    (h : ((M.1 20 0 6) < 8 → ∃ (M1 : Mem), CC X d 10 [vR 8 0] M none M1 ∧ ∃ (r1 : Int32) (M2 : Mem), CC X d 61 [vR 20 0, vI p0] M1 (some (vI r1)) M2 ∧ Q (some (vI r1)) M2) ∧ (¬ (M.1 20 0 6) < 8 → Q (some (vI (-1))) M)) :
    V X (d + 1) 100 0 [some (vR 2 0), some (vI p0)] [] M Q := wpn_sound (cuts := []) ok100 14 0 _ _ _ h
theorem e100 {X : Cx} {d : Nat} {M M2 : Mem} {p0 : Int32} {r : Int32} (h : V X d 100 0 [some (vR 2 0), some (vI p0)] [] M (fun r' M' => r' = (some (vI r)) ∧ M' = M2)) : CC X d 100 [vR 2 0, vI p0] M (some (vI r)) M2 := CC_of (by decide) trivial (Nat.le_of_ble_eq_true rfl) (by simp [c1]) h
-- ClayBoots.person, from 0
set_option maxRecDepth 100000 in
theorem w101_0 {X : Cx} {d : Nat} {M : Mem} {Q : Option Vl → Mem → Prop} {p0 p1 p2 : Int32}
    (h : ∃ (r1 : Int32) (M1 : Mem), CC X d 56 [vR 20 0, vI p0] M (some (vI r1)) M1 ∧ (r1 = 0 → Q (some (vI (-1))) M1) ∧ (¬ r1 = 0 → ∃ (r2 : Int32) (M2 : Mem), CC X d 146 [vI p1, vI 1, vI 9] M1 (some (vI r2)) M2 ∧ (r2 = 0 → Q (some (vI (-1))) M2) ∧ (¬ r2 = 0 → ∃ (r3 : Int32) (M3 : Mem), CC X d 146 [vI p2, vI 0, vI 9] M2 (some (vI r3)) M3 ∧ (r3 = 0 → Q (some (vI (-1))) M3) ∧ (¬ r3 = 0 → ((M3.1 20 0 7) < 12 → ∃ (M4 : Mem), CC X d 10 [vR 8 0] M3 none M4 ∧ ∃ (r4 : Int32) (M5 : Mem), CC X d 62 [vR 20 0, vI p0, vI p1, vI p2] M4 (some (vI r4)) M5 ∧ Q (some (vI r4)) M5) ∧ (¬ (M3.1 20 0 7) < 12 → Q (some (vI (-1))) M3))))) :
    V X (d + 1) 101 0 [some (vR 2 0), some (vI p0), some (vI p1), some (vI p2)] [] M Q := wpn_sound (cuts := []) ok101 31 0 _ _ _ h
theorem e101 {X : Cx} {d : Nat} {M M2 : Mem} {p0 p1 p2 : Int32} {r : Int32} (h : V X d 101 0 [some (vR 2 0), some (vI p0), some (vI p1), some (vI p2)] [] M (fun r' M' => r' = (some (vI r)) ∧ M' = M2)) : CC X d 101 [vR 2 0, vI p0, vI p1, vI p2] M (some (vI r)) M2 := CC_of (by decide) trivial (Nat.le_of_ble_eq_true rfl) (by simp [c1]) h
-- ClayBoots.set, from 0
set_option maxRecDepth 100000 in
theorem w102_0 {X : Cx} {d : Nat} {M : Mem} {Q : Option Vl → Mem → Prop} {p0 p1 p2 : Int32}
    (h : (¬ p0 = 0 → (¬ p0 = 1 → (¬ p0 = 2 → isB 0 ∧ Q (some (vI 0)) M) ∧ (p0 = 2 → ∃ (r1 : Int32) (M1 : Mem), CC X d 57 [vR 20 0, vI p1] M (some (vI r1)) M1 ∧ (r1 = 0 → isB 0 ∧ Q (some (vI 0)) M1) ∧ (¬ r1 = 0 → ∃ (r2 : Int32) (M2 : Mem), CC X d 146 [vI p2, vI 0, vI 9] M1 (some (vI r2)) M2 ∧ (r2 = 0 → isB 0 ∧ Q (some (vI 0)) M2) ∧ (¬ r2 = 0 → inb p1 12 ∧ ∀ M3, M3 = st M2 27 0 (ix p1) p2 → ∃ (M4 : Mem), CC X d 10 [vR 8 0] M3 none M4 ∧ isB 1 ∧ Q (some (vI 1)) M4)))) ∧ (p0 = 1 → ∃ (r3 : Int32) (M5 : Mem), CC X d 55 [vR 20 0, vI p1] M (some (vI r3)) M5 ∧ (r3 = 0 → (¬ p0 = 2 → isB 0 ∧ Q (some (vI 0)) M5) ∧ (p0 = 2 → ∃ (r4 : Int32) (M6 : Mem), CC X d 57 [vR 20 0, vI p1] M5 (some (vI r4)) M6 ∧ (r4 = 0 → isB 0 ∧ Q (some (vI 0)) M6) ∧ (¬ r4 = 0 → ∃ (r5 : Int32) (M7 : Mem), CC X d 146 [vI p2, vI 0, vI 9] M6 (some (vI r5)) M7 ∧ (r5 = 0 → isB 0 ∧ Q (some (vI 0)) M7) ∧ (¬ r5 = 0 → inb p1 12 ∧ ∀ M8, M8 = st M7 27 0 (ix p1) p2 → ∃ (M9 : Mem), CC X d 10 [vR 8 0] M8 none M9 ∧ isB 1 ∧ Q (some (vI 1)) M9)))) ∧ (¬ r3 = 0 → ∃ (r6 : Int32) (M10 : Mem), CC X d 146 [vI p2, vI 0, vI 9999] M5 (some (vI r6)) M10 ∧ (r6 = 0 → (¬ p0 = 2 → isB 0 ∧ Q (some (vI 0)) M10) ∧ (p0 = 2 → ∃ (r7 : Int32) (M11 : Mem), CC X d 57 [vR 20 0, vI p1] M10 (some (vI r7)) M11 ∧ (r7 = 0 → isB 0 ∧ Q (some (vI 0)) M11) ∧ (¬ r7 = 0 → ∃ (r8 : Int32) (M12 : Mem), CC X d 146 [vI p2, vI 0, vI 9] M11 (some (vI r8)) M12 ∧ (r8 = 0 → isB 0 ∧ Q (some (vI 0)) M12) ∧ (¬ r8 = 0 → inb p1 12 ∧ ∀ M13, M13 = st M12 27 0 (ix p1) p2 → ∃ (M14 : Mem), CC X d 10 [vR 8 0] M13 none M14 ∧ isB 1 ∧ Q (some (vI 1)) M14)))) ∧ (¬ r6 = 0 → inb p1 10 ∧ ∀ M15, M15 = st M10 22 0 (ix p1) p2 → ∃ (M16 : Mem), CC X d 10 [vR 8 0] M15 none M16 ∧ isB 1 ∧ Q (some (vI 1)) M16)))) ∧ (p0 = 0 → ∃ (r9 : Int32) (M17 : Mem), CC X d 146 [vI p2, vI 0, vI 9] M (some (vI r9)) M17 ∧ (r9 = 0 → (¬ p0 = 1 → (¬ p0 = 2 → isB 0 ∧ Q (some (vI 0)) M17) ∧ (p0 = 2 → ∃ (r10 : Int32) (M18 : Mem), CC X d 57 [vR 20 0, vI p1] M17 (some (vI r10)) M18 ∧ (r10 = 0 → isB 0 ∧ Q (some (vI 0)) M18) ∧ (¬ r10 = 0 → ∃ (r11 : Int32) (M19 : Mem), CC X d 146 [vI p2, vI 0, vI 9] M18 (some (vI r11)) M19 ∧ (r11 = 0 → isB 0 ∧ Q (some (vI 0)) M19) ∧ (¬ r11 = 0 → inb p1 12 ∧ ∀ M20, M20 = st M19 27 0 (ix p1) p2 → ∃ (M21 : Mem), CC X d 10 [vR 8 0] M20 none M21 ∧ isB 1 ∧ Q (some (vI 1)) M21)))) ∧ (p0 = 1 → ∃ (r12 : Int32) (M22 : Mem), CC X d 55 [vR 20 0, vI p1] M17 (some (vI r12)) M22 ∧ (r12 = 0 → (¬ p0 = 2 → isB 0 ∧ Q (some (vI 0)) M22) ∧ (p0 = 2 → ∃ (r13 : Int32) (M23 : Mem), CC X d 57 [vR 20 0, vI p1] M22 (some (vI r13)) M23 ∧ (r13 = 0 → isB 0 ∧ Q (some (vI 0)) M23) ∧ (¬ r13 = 0 → ∃ (r14 : Int32) (M24 : Mem), CC X d 146 [vI p2, vI 0, vI 9] M23 (some (vI r14)) M24 ∧ (r14 = 0 → isB 0 ∧ Q (some (vI 0)) M24) ∧ (¬ r14 = 0 → inb p1 12 ∧ ∀ M25, M25 = st M24 27 0 (ix p1) p2 → ∃ (M26 : Mem), CC X d 10 [vR 8 0] M25 none M26 ∧ isB 1 ∧ Q (some (vI 1)) M26)))) ∧ (¬ r12 = 0 → ∃ (r15 : Int32) (M27 : Mem), CC X d 146 [vI p2, vI 0, vI 9999] M22 (some (vI r15)) M27 ∧ (r15 = 0 → (¬ p0 = 2 → isB 0 ∧ Q (some (vI 0)) M27) ∧ (p0 = 2 → ∃ (r16 : Int32) (M28 : Mem), CC X d 57 [vR 20 0, vI p1] M27 (some (vI r16)) M28 ∧ (r16 = 0 → isB 0 ∧ Q (some (vI 0)) M28) ∧ (¬ r16 = 0 → ∃ (r17 : Int32) (M29 : Mem), CC X d 146 [vI p2, vI 0, vI 9] M28 (some (vI r17)) M29 ∧ (r17 = 0 → isB 0 ∧ Q (some (vI 0)) M29) ∧ (¬ r17 = 0 → inb p1 12 ∧ ∀ M30, M30 = st M29 27 0 (ix p1) p2 → ∃ (M31 : Mem), CC X d 10 [vR 8 0] M30 none M31 ∧ isB 1 ∧ Q (some (vI 1)) M31)))) ∧ (¬ r15 = 0 → inb p1 10 ∧ ∀ M32, M32 = st M27 22 0 (ix p1) p2 → ∃ (M33 : Mem), CC X d 10 [vR 8 0] M32 none M33 ∧ isB 1 ∧ Q (some (vI 1)) M33)))) ∧ (¬ r9 = 0 → ∀ M34, M34 = st M17 20 0 1 p2 → ∃ (M35 : Mem), CC X d 10 [vR 8 0] M34 none M35 ∧ isB 1 ∧ Q (some (vI 1)) M35))) :
    V X (d + 1) 102 0 [some (vR 2 0), some (vI p0), some (vI p1), some (vI p2)] [] M Q := wpn_sound (cuts := []) ok102 46 0 _ _ _ h
theorem e102 {X : Cx} {d : Nat} {M M2 : Mem} {p0 p1 p2 : Int32} {r : Int32} (h : V X d 102 0 [some (vR 2 0), some (vI p0), some (vI p1), some (vI p2)] [] M (fun r' M' => r' = (some (vI r)) ∧ M' = M2)) : CC X d 102 [vR 2 0, vI p0, vI p1, vI p2] M (some (vI r)) M2 := CC_of (by decide) trivial (Nat.le_of_ble_eq_true rfl) (by simp [c1]) h
-- ClayBoots.call, from 0
set_option maxRecDepth 100000 in
theorem w103_0 {X : Cx} {d : Nat} {M : Mem} {Q : Option Vl → Mem → Prop} {p0 p1 p2 : Int32}
    (h : ∃ (r1 : Int32) (M1 : Mem), CC X d 57 [vR 20 0, vI p0] M (some (vI r1)) M1 ∧ (r1 = 0 → Q (some (vI (-1))) M1) ∧ (¬ r1 = 0 → ∃ (r2 : Int32) (M2 : Mem), CC X d 56 [vR 20 0, vI p2] M1 (some (vI r2)) M2 ∧ (r2 = 0 → Q (some (vI (-1))) M2) ∧ (¬ r2 = 0 → ∃ (r3 : Int32) (M3 : Mem), CC X d 59 [vR 20 0, vI p1] M2 (some (vI r3)) M3 ∧ (¬ r3 = 0 → ∃ (M4 : Mem), CC X d 8 [vR 8 0, vR 20 0] M3 none M4 ∧ ∃ (r4 : Int32) (M5 : Mem), CC X d 90 [vR 11 0, vI p0, vI p1, vI p2] M4 (some (vI r4)) M5 ∧ Q (some (vI r4)) M5) ∧ (r3 = 0 → Q (some (vI (-1))) M3)))) :
    V X (d + 1) 103 0 [some (vR 2 0), some (vI p0), some (vI p1), some (vI p2)] [] M Q := wpn_sound (cuts := []) ok103 28 0 _ _ _ h
theorem e103 {X : Cx} {d : Nat} {M M2 : Mem} {p0 p1 p2 : Int32} {r : Int32} (h : V X d 103 0 [some (vR 2 0), some (vI p0), some (vI p1), some (vI p2)] [] M (fun r' M' => r' = (some (vI r)) ∧ M' = M2)) : CC X d 103 [vR 2 0, vI p0, vI p1, vI p2] M (some (vI r)) M2 := CC_of (by decide) trivial (Nat.le_of_ble_eq_true rfl) (by simp [c1]) h
-- ClayBoots.act, from 0
set_option maxRecDepth 100000 in
theorem w104_0 {X : Cx} {d : Nat} {M : Mem} {Q : Option Vl → Mem → Prop} {p0 p1 : Int32}
    (h : ∃ (r1 : Int32) (M1 : Mem), CC X d 105 [vR 2 0, vI p0, vI p1] M (some (vI r1)) M1 ∧ (¬ r1 = 0 → ∃ (M2 : Mem), CC X d 8 [vR 8 0, vR 20 0] M1 none M2 ∧ (¬ p0 = 0 → (2 < p0 → (¬ p0 = 3 → ∀ M3, M3 = st M2 20 0 2 0 → isB 1 ∧ Q (some (vI 1)) M3) ∧ (p0 = 3 → ∀ M4, M4 = st M2 20 0 2 1 → isB 1 ∧ Q (some (vI 1)) M4)) ∧ (¬ 2 < p0 → (¬ p0 = 1 → inb p1 8 ∧ ∀ M5, M5 = st M2 23 0 (ix p1) 0 → isB 1 ∧ Q (some (vI 1)) M5) ∧ (p0 = 1 → inb p1 8 ∧ ∀ M6, M6 = st M2 23 0 (ix p1) 1 → isB 1 ∧ Q (some (vI 1)) M6))) ∧ (p0 = 0 → ∃ (M7 : Mem), CC X d 97 [vR 11 0, vI p1] M2 none M7 ∧ isB 1 ∧ Q (some (vI 1)) M7)) ∧ (r1 = 0 → isB 0 ∧ Q (some (vI 0)) M1)) :
    V X (d + 1) 104 0 [some (vR 2 0), some (vI p0), some (vI p1)] [] M Q := wpn_sound (cuts := []) ok104 29 0 _ _ _ h
theorem e104 {X : Cx} {d : Nat} {M M2 : Mem} {p0 p1 : Int32} {r : Int32} (h : V X d 104 0 [some (vR 2 0), some (vI p0), some (vI p1)] [] M (fun r' M' => r' = (some (vI r)) ∧ M' = M2)) : CC X d 104 [vR 2 0, vI p0, vI p1] M (some (vI r)) M2 := CC_of (by decide) trivial (Nat.le_of_ble_eq_true rfl) (by simp [c1]) h
-- ClayBoots.canAct, from 0
set_option maxRecDepth 100000 in
theorem w105_0 {X : Cx} {d : Nat} {M : Mem} {Q : Option Vl → Mem → Prop} {p0 p1 : Int32}
    (h : (p0 = 0 → ∃ (r1 : Int32) (M1 : Mem), CC X d 56 [vR 20 0, vI p1] M (some (vI r1)) M1 ∧ isB r1 ∧ Q (some (vI r1)) M1) ∧ (¬ p0 = 0 → (p0 = 1 → ∃ (r2 : Int32) (M2 : Mem), CC X d 56 [vR 20 0, vI p1] M (some (vI r2)) M2 ∧ (r2 = 0 → isB 0 ∧ Q (some (vI 0)) M2) ∧ (¬ r2 = 0 → inb p1 8 ∧ (¬ (M2.1 23 0 (ix p1)) = 0 → isB 0 ∧ Q (some (vI 0)) M2) ∧ ((M2.1 23 0 (ix p1)) = 0 → isB 1 ∧ Q (some (vI 1)) M2))) ∧ (¬ p0 = 1 → (p0 = 2 → ∃ (r3 : Int32) (M3 : Mem), CC X d 56 [vR 20 0, vI p1] M (some (vI r3)) M3 ∧ (r3 = 0 → isB 0 ∧ Q (some (vI 0)) M3) ∧ (¬ r3 = 0 → inb p1 8 ∧ (¬ (M3.1 23 0 (ix p1)) = 1 → isB 0 ∧ Q (some (vI 0)) M3) ∧ ((M3.1 23 0 (ix p1)) = 1 → isB 1 ∧ Q (some (vI 1)) M3))) ∧ (¬ p0 = 2 → (p0 = 3 → (¬ (M.1 20 0 2) = 0 → isB 0 ∧ Q (some (vI 0)) M) ∧ ((M.1 20 0 2) = 0 → isB 1 ∧ Q (some (vI 1)) M)) ∧ (¬ p0 = 3 → (p0 = 4 → (¬ (M.1 20 0 2) = 1 → isB 0 ∧ Q (some (vI 0)) M) ∧ ((M.1 20 0 2) = 1 → isB 1 ∧ Q (some (vI 1)) M)) ∧ (¬ p0 = 4 → isB 0 ∧ Q (some (vI 0)) M)))))) :
    V X (d + 1) 105 0 [some (vR 2 0), some (vI p0), some (vI p1)] [] M Q := wpn_sound (cuts := []) ok105 18 0 _ _ _ h
theorem e105 {X : Cx} {d : Nat} {M M2 : Mem} {p0 p1 : Int32} {r : Int32} (h : V X d 105 0 [some (vR 2 0), some (vI p0), some (vI p1)] [] M (fun r' M' => r' = (some (vI r)) ∧ M' = M2)) : CC X d 105 [vR 2 0, vI p0, vI p1] M (some (vI r)) M2 := CC_of (by decide) trivial (Nat.le_of_ble_eq_true rfl) (by simp [c1]) h
-- ClayBoots.days, from 0
set_option maxRecDepth 100000 in
theorem w106_0 {X : Cx} {d : Nat} {M : Mem} {Q : Option Vl → Mem → Prop} {p0 : Int32}
    (h : ∃ (r1 : Int32) (M1 : Mem), CC X d 146 [vI p0, vI 1, vI 60] M (some (vI r1)) M1 ∧ (r1 = 0 → Q (some (vI (-1))) M1) ∧ (¬ r1 = 0 → (((M1.1 20 0 4) + p0) ≤ 9999 → V X (d + 1) 106 31 [some (vR 2 0), some (vI p0), some (vI 0), some (vI 0)] [] M1 Q) ∧ (¬ ((M1.1 20 0 4) + p0) ≤ 9999 → Q (some (vI (-1))) M1))) :
    V X (d + 1) 106 0 [some (vR 2 0), some (vI p0), none, none] [] M Q := wpn_sound (cuts := [(31, [true, true, true, true])]) ok106 17 0 _ _ _ h
-- ClayBoots.days, from 31
set_option maxRecDepth 100000 in
theorem w106_31 {X : Cx} {d : Nat} {M : Mem} {Q : Option Vl → Mem → Prop} {x1 x2 x3 : Int32}
    (h : (x1 ≤ x3 → Q (some (vI x2)) M) ∧ (¬ x1 ≤ x3 → (6 < (x1 - x3) → ∃ (r1 : Int32) (M1 : Mem), CC X d 95 [vR 11 0] M (some (vI r1)) M1 ∧ V X (d + 1) 106 31 [some (vR 2 0), some (vI x1), some (vI (x2 + r1)), some (vI (x3 + 1))] [] M1 Q) ∧ (¬ 6 < (x1 - x3) → ∃ (M2 : Mem), CC X d 8 [vR 8 0, vR 20 0] M none M2 ∧ ∃ (r2 : Int32) (M3 : Mem), CC X d 95 [vR 11 0] M2 (some (vI r2)) M3 ∧ V X (d + 1) 106 31 [some (vR 2 0), some (vI x1), some (vI (x2 + r2)), some (vI (x3 + 1))] [] M3 Q))) :
    V X (d + 1) 106 31 [some (vR 2 0), some (vI x1), some (vI x2), some (vI x3)] [] M Q := wpn_sound (cuts := [(31, [true, true, true, true])]) ok106 22 31 _ _ _ h
theorem e106 {X : Cx} {d : Nat} {M M2 : Mem} {p0 : Int32} {r : Int32} (h : V X d 106 0 [some (vR 2 0), some (vI p0), none, none] [] M (fun r' M' => r' = (some (vI r)) ∧ M' = M2)) : CC X d 106 [vR 2 0, vI p0] M (some (vI r)) M2 := CC_of (by decide) trivial (Nat.le_of_ble_eq_true rfl) (by simp [c1]) h
-- ClayBoots.feed, from 0
set_option maxRecDepth 100000 in
theorem w107_0 {X : Cx} {d : Nat} {M : Mem} {Q : Option Vl → Mem → Prop} {p0 p1 p2 p3 p4 : Int32}
    (h : (((M.1 3 0 7) + 20) ≤ 400 → ∃ (M1 : Mem), CC X d 23 [vR 3 0, vI p0] M none M1 ∧ ∃ (M2 : Mem), CC X d 23 [vR 3 0, vI p1] M1 none M2 ∧ ∃ (M3 : Mem), CC X d 23 [vR 3 0, vI p2] M2 none M3 ∧ ∃ (M4 : Mem), CC X d 23 [vR 3 0, vI p3] M3 none M4 ∧ ∃ (M5 : Mem), CC X d 23 [vR 3 0, vI p4] M4 none M5 ∧ Q (some (vI (M5.1 3 0 7))) M5) ∧ (¬ ((M.1 3 0 7) + 20) ≤ 400 → Q (some (vI (-1))) M)) :
    V X (d + 1) 107 0 [some (vR 2 0), some (vI p0), some (vI p1), some (vI p2), some (vI p3), some (vI p4)] [] M Q := wpn_sound (cuts := []) ok107 32 0 _ _ _ h
theorem e107 {X : Cx} {d : Nat} {M M2 : Mem} {p0 p1 p2 p3 p4 : Int32} {r : Int32} (h : V X d 107 0 [some (vR 2 0), some (vI p0), some (vI p1), some (vI p2), some (vI p3), some (vI p4)] [] M (fun r' M' => r' = (some (vI r)) ∧ M' = M2)) : CC X d 107 [vR 2 0, vI p0, vI p1, vI p2, vI p3, vI p4] M (some (vI r)) M2 := CC_of (by decide) trivial (Nat.le_of_ble_eq_true rfl) (by simp [c1]) h
