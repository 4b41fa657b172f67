-- ClayBootsModel.toLand, from 0
set_option maxRecDepth 100000 in
theorem w219_0 {X : Cx} {d : Nat} {M : Mem} {Q : Option Vl → Mem → Prop} {p0 p1 : Int32}
    (h : inb (7 + p0) 2129 ∧ ∃ (r1 : Int32) (M1 : Mem), CC X d 152 [vI 9999, vI ((M.1 101 0 (ix (7 + p0))) + p1)] M (some (vI r1)) M1 ∧ inb (7 + p0) 2129 ∧ ∀ M2, M2 = st M1 101 0 (ix (7 + p0)) r1 → Q (none) M2) :
    V X (d + 1) 219 0 [some (vR 100 0), some (vI p0), some (vI p1)] [] M Q := wpn_sound (cuts := []) ok219 18 0 _ _ _ h
theorem e219 {X : Cx} {d : Nat} {M M2 : Mem} {p0 p1 : Int32} (h : V X d 219 0 [some (vR 100 0), some (vI p0), some (vI p1)] [] M (fun r' M' => r' = none ∧ M' = M2)) : CC X d 219 [vR 100 0, vI p0, vI p1] M none M2 := CC_of (by decide) trivial (Nat.le_of_ble_eq_true rfl) (by simp [c1]) h
-- ClayBootsModel.sweeps, from 0
set_option maxRecDepth 100000 in
theorem w220_0 {X : Cx} {d : Nat} {M : Mem} {Q : Option Vl → Mem → Prop} {p0 : Int32}
    (h : V X (d + 1) 220 4 [some (vR 100 0), some (vI p0), some (vI 0), some (vI 0)] [] M Q) :
    V X (d + 1) 220 0 [some (vR 100 0), some (vI p0), none, none] [] M Q := wpn_sound (cuts := [(4, [true, true, true, true])]) ok220 5 0 _ _ _ h
-- ClayBootsModel.sweeps, from 4
set_option maxRecDepth 100000 in
theorem w220_4 {X : Cx} {d : Nat} {M : Mem} {Q : Option Vl → Mem → Prop} {x1 x2 x3 : Int32}
    (h : (10 ≤ x3 → ∃ (M1 : Mem), CC X d 213 [vR 100 0, vI 3, vI x1, vI x2] M none M1 ∧ Q (none) M1) ∧ (¬ 10 ≤ x3 → inb ((29 + (10 * x1)) + x3) 2129 ∧ inb ((29 + (10 * x1)) + x3) 2129 ∧ ∃ (M2 : Mem), CC X d 219 [vR 100 0, vI x3, vI (M.1 101 0 (ix ((29 + (10 * x1)) + x3)))] M none M2 ∧ inb ((29 + (10 * x1)) + x3) 2129 ∧ ∀ M3, M3 = st M2 101 0 (ix ((29 + (10 * x1)) + x3)) 0 → V X (d + 1) 220 4 [some (vR 100 0), some (vI x1), some (vI (x2 + (M.1 101 0 (ix ((29 + (10 * x1)) + x3))))), some (vI (x3 + 1))] [] M3 Q)) :
    V X (d + 1) 220 4 [some (vR 100 0), some (vI x1), some (vI x2), some (vI x3)] [] M Q := wpn_sound (cuts := [(4, [true, true, true, true])]) ok220 43 4 _ _ _ h
theorem e220 {X : Cx} {d : Nat} {M M2 : Mem} {p0 : Int32} (h : V X d 220 0 [some (vR 100 0), some (vI p0), none, none] [] M (fun r' M' => r' = none ∧ M' = M2)) : CC X d 220 [vR 100 0, vI p0] M none M2 := CC_of (by decide) trivial (Nat.le_of_ble_eq_true rfl) (by simp [c1]) h
-- ClayBootsModel.canAct, from 0
set_option maxRecDepth 100000 in
theorem w221_0 {X : Cx} {d : Nat} {M : Mem} {Q : Option Vl → Mem → Prop} {p0 p1 : Int32}
    (h : (p0 = 0 → ∃ (r1 : Int32) (M1 : Mem), CC X d 156 [vR 100 0, vI p1] M (some (vI r1)) M1 ∧ isB r1 ∧ Q (some (vI r1)) M1) ∧ (¬ p0 = 0 → (p0 = 1 → ∃ (r2 : Int32) (M2 : Mem), CC X d 156 [vR 100 0, vI p1] M (some (vI r2)) M2 ∧ (r2 = 0 → isB 0 ∧ Q (some (vI 0)) M2) ∧ (¬ r2 = 0 → ∃ (r3 : Int32) (M3 : Mem), CC X d 158 [vR 100 0, vI p1] M2 (some (vI r3)) M3 ∧ (¬ r3 = 0 → isB 0 ∧ Q (some (vI 0)) M3) ∧ (r3 = 0 → isB 1 ∧ Q (some (vI 1)) M3))) ∧ (¬ p0 = 1 → (p0 = 2 → ∃ (r4 : Int32) (M4 : Mem), CC X d 156 [vR 100 0, vI p1] M (some (vI r4)) M4 ∧ (r4 = 0 → isB 0 ∧ Q (some (vI 0)) M4) ∧ (¬ r4 = 0 → ∃ (r5 : Int32) (M5 : Mem), CC X d 158 [vR 100 0, vI p1] M4 (some (vI r5)) M5 ∧ (r5 = 0 → isB 0 ∧ Q (some (vI 0)) M5) ∧ (¬ r5 = 0 → isB 1 ∧ Q (some (vI 1)) M5))) ∧ (¬ p0 = 2 → ∃ (r6 : Int32) (M6 : Mem), CC X d 151 [vI p0, vI 3, vI 4] M (some (vI r6)) M6 ∧ (r6 = 0 → isB 0 ∧ Q (some (vI 0)) M6) ∧ (¬ r6 = 0 → inb 1 2129 ∧ (¬ (M6.1 101 0 (ix 1)) = (p0 - 3) → isB 0 ∧ Q (some (vI 0)) M6) ∧ ((M6.1 101 0 (ix 1)) = (p0 - 3) → isB 1 ∧ Q (some (vI 1)) M6)))))) :
    V X (d + 1) 221 0 [some (vR 100 0), some (vI p0), some (vI p1)] [] M Q := wpn_sound (cuts := []) ok221 19 0 _ _ _ h
theorem e221 {X : Cx} {d : Nat} {M M2 : Mem} {p0 p1 : Int32} {r : Int32} (h : V X d 221 0 [some (vR 100 0), some (vI p0), some (vI p1)] [] M (fun r' M' => r' = (some (vI r)) ∧ M' = M2)) : CC X d 221 [vR 100 0, vI p0, vI p1] M (some (vI r)) M2 := CC_of (by decide) trivial (Nat.le_of_ble_eq_true rfl) (by simp [c1]) h
-- ClayBootsModel.act, from 0
set_option maxRecDepth 100000 in
theorem w222_0 {X : Cx} {d : Nat} {M : Mem} {Q : Option Vl → Mem → Prop} {p0 p1 : Int32}
    (h : ∃ (r1 : Int32) (M1 : Mem), CC X d 221 [vR 100 0, vI p0, vI p1] M (some (vI r1)) M1 ∧ (¬ r1 = 0 → ∃ (M2 : Mem), CC X d 211 [vR 100 0] M1 none M2 ∧ (¬ p0 = 0 → (3 ≤ p0 → inb 1 2129 ∧ ∀ M3, M3 = st M2 101 0 (ix 1) (4 - p0) → isB 1 ∧ Q (some (vI 1)) M3) ∧ (¬ 3 ≤ p0 → inb 6 2129 ∧ inb 6 2129 ∧ ∀ M4, M4 = st M2 101 0 (ix 6) ((M2.1 101 0 (ix 6)) ^^^ (1 <<< (p1 &&& 31))) → isB 1 ∧ Q (some (vI 1)) M4)) ∧ (p0 = 0 → ∃ (M5 : Mem), CC X d 220 [vR 100 0, vI p1] M2 none M5 ∧ isB 1 ∧ Q (some (vI 1)) M5)) ∧ (r1 = 0 → isB 0 ∧ Q (some (vI 0)) M1)) :
    V X (d + 1) 222 0 [some (vR 100 0), some (vI p0), some (vI p1)] [] M Q := wpn_sound (cuts := []) ok222 26 0 _ _ _ h
theorem e222 {X : Cx} {d : Nat} {M M2 : Mem} {p0 p1 : Int32} {r : Int32} (h : V X d 222 0 [some (vR 100 0), some (vI p0), some (vI p1)] [] M (fun r' M' => r' = (some (vI r)) ∧ M' = M2)) : CC X d 222 [vR 100 0, vI p0, vI p1] M (some (vI r)) M2 := CC_of (by decide) trivial (Nat.le_of_ble_eq_true rfl) (by simp [c1]) h
-- ClayBootsModel.isSky, from 0
set_option maxRecDepth 100000 in
theorem w223_0 {X : Cx} {d : Nat} {M : Mem} {Q : Option Vl → Mem → Prop} {p0 : Int32}
    (h : inb (p0 + 1) 2129 ∧ (¬ (M.1 101 0 (ix (p0 + 1))) = 11 → inb (p0 + 1) 2129 ∧ (¬ (M.1 101 0 (ix (p0 + 1))) = 12 → inb 1 2129 ∧ ∀ M1, M1 = st M 101 0 (ix 1) 0 → Q (none) M1) ∧ ((M.1 101 0 (ix (p0 + 1))) = 12 → inb 1 2129 ∧ ∀ M2, M2 = st M 101 0 (ix 1) 1 → Q (none) M2)) ∧ ((M.1 101 0 (ix (p0 + 1))) = 11 → inb (p0 + 2) 2129 ∧ inb 0 2129 ∧ ∀ M3, M3 = st M 101 0 (ix 0) (M.1 101 0 (ix (p0 + 2))) → Q (none) M3)) :
    V X (d + 1) 223 0 [some (vR 100 0), some (vI p0)] [] M Q := wpn_sound (cuts := []) ok223 24 0 _ _ _ h
theorem e223 {X : Cx} {d : Nat} {M M2 : Mem} {p0 : Int32} (h : V X d 223 0 [some (vR 100 0), some (vI p0)] [] M (fun r' M' => r' = none ∧ M' = M2)) : CC X d 223 [vR 100 0, vI p0] M none M2 := CC_of (by decide) trivial (Nat.le_of_ble_eq_true rfl) (by simp [c1]) h
-- ClayBootsModel.fallsAtHome, from 0
set_option maxRecDepth 100000 in
theorem w224_0 {X : Cx} {d : Nat} {M : Mem} {Q : Option Vl → Mem → Prop} {p0 : Int32}
    (h : V X (d + 1) 224 4 [some (vR 100 0), some (vI p0), some (vI 0), some (vI 0), none] [] M Q) :
    V X (d + 1) 224 0 [some (vR 100 0), some (vI p0), none, none, none] [] M Q := wpn_sound (cuts := [(4, [true, true, true, true, false])]) ok224 5 0 _ _ _ h
-- ClayBootsModel.fallsAtHome, from 4
set_option maxRecDepth 100000 in
theorem w224_4 {X : Cx} {d : Nat} {M : Mem} {Q : Option Vl → Mem → Prop} {x1 x2 x3 : Int32}
    (h : (10 ≤ x3 → (x2 ≤ 0 → Q (none) M) ∧ (¬ x2 ≤ 0 → ∃ (M1 : Mem), CC X d 213 [vR 100 0, vI 2, vI x1, vI x2] M none M1 ∧ Q (none) M1)) ∧ (¬ 10 ≤ x3 → inb ((109 + (10 * x1)) + x3) 2129 ∧ ¬ (2 : Int32) = 0 ∧ inb ((109 + (10 * x1)) + x3) 2129 ∧ inb ((109 + (10 * x1)) + x3) 2129 ∧ ∀ M2, M2 = st M 101 0 (ix ((109 + (10 * x1)) + x3)) ((M.1 101 0 (ix ((109 + (10 * x1)) + x3))) - ((M.1 101 0 (ix ((109 + (10 * x1)) + x3))) / 2)) → inb (251 + x1) 2129 ∧ ∃ (r1 : Int32) (M3 : Mem), CC X d 158 [vR 100 0, vI (M2.1 101 0 (ix (251 + x1)))] M2 (some (vI r1)) M3 ∧ (r1 = 0 → inb (251 + x1) 2129 ∧ inb ((29 + (10 * (M3.1 101 0 (ix (251 + x1))))) + x3) 2129 ∧ inb ((29 + (10 * (M3.1 101 0 (ix (251 + x1))))) + x3) 2129 ∧ ∀ M4, M4 = st M3 101 0 (ix ((29 + (10 * (M3.1 101 0 (ix (251 + x1))))) + x3)) ((M3.1 101 0 (ix ((29 + (10 * (M3.1 101 0 (ix (251 + x1))))) + x3))) + ((M.1 101 0 (ix ((109 + (10 * x1)) + x3))) / 2)) → V X (d + 1) 224 4 [some (vR 100 0), some (vI x1), some (vI (x2 + ((M.1 101 0 (ix ((109 + (10 * x1)) + x3))) / 2))), some (vI (x3 + 1)), none] [] M4 Q) ∧ (¬ r1 = 0 → ∃ (M5 : Mem), CC X d 219 [vR 100 0, vI x3, vI ((M.1 101 0 (ix ((109 + (10 * x1)) + x3))) / 2)] M3 none M5 ∧ V X (d + 1) 224 4 [some (vR 100 0), some (vI x1), some (vI (x2 + ((M.1 101 0 (ix ((109 + (10 * x1)) + x3))) / 2))), some (vI (x3 + 1)), none] [] M5 Q))) :
    V X (d + 1) 224 4 [some (vR 100 0), some (vI x1), some (vI x2), some (vI x3), none] [] M Q := wpn_sound (cuts := [(4, [true, true, true, true, false])]) ok224 65 4 _ _ _ h
theorem e224 {X : Cx} {d : Nat} {M M2 : Mem} {p0 : Int32} (h : V X d 224 0 [some (vR 100 0), some (vI p0), none, none, none] [] M (fun r' M' => r' = none ∧ M' = M2)) : CC X d 224 [vR 100 0, vI p0] M none M2 := CC_of (by decide) trivial (Nat.le_of_ble_eq_true rfl) (by simp [c1]) h
-- ClayBootsModel.laysCall, from 0
set_option maxRecDepth 100000 in
theorem w225_0 {X : Cx} {d : Nat} {M : Mem} {Q : Option Vl → Mem → Prop} {p0 : Int32}
    (h : ∀ M1, M1 = st M 100 0 28 0 → V X (d + 1) 225 7 [some (vR 100 0), some (vI p0), some (vI 0)] [] M1 Q) :
    V X (d + 1) 225 0 [some (vR 100 0), some (vI p0), none] [] M Q := wpn_sound (cuts := [(7, [true, true, true])]) ok225 6 0 _ _ _ h
-- ClayBootsModel.laysCall, from 7
set_option maxRecDepth 100000 in
theorem w225_7 {X : Cx} {d : Nat} {M : Mem} {Q : Option Vl → Mem → Prop} {x1 x2 : Int32}
    (h : (6 ≤ x2 → Q (none) M) ∧ (¬ 6 ≤ x2 → inb ((x1 + 3) + x2) 2129 ∧ (¬ (M.1 101 0 (ix ((x1 + 3) + x2))) = (-1) → inb ((x1 + 3) + x2) 2129 ∧ inb (M.1 100 0 28) 6 ∧ ∀ M1, M1 = st M 111 0 (ix (M.1 100 0 28)) (M.1 101 0 (ix ((x1 + 3) + x2))) → ∀ M2, M2 = st M1 100 0 28 ((M1.1 100 0 28) + 1) → V X (d + 1) 225 7 [some (vR 100 0), some (vI x1), some (vI (x2 + 1))] [] M2 Q) ∧ ((M.1 101 0 (ix ((x1 + 3) + x2))) = (-1) → V X (d + 1) 225 7 [some (vR 100 0), some (vI x1), some (vI (x2 + 1))] [] M Q))) :
    V X (d + 1) 225 7 [some (vR 100 0), some (vI x1), some (vI x2)] [] M Q := wpn_sound (cuts := [(7, [true, true, true])]) ok225 35 7 _ _ _ h
theorem e225 {X : Cx} {d : Nat} {M M2 : Mem} {p0 : Int32} (h : V X d 225 0 [some (vR 100 0), some (vI p0), none] [] M (fun r' M' => r' = none ∧ M' = M2)) : CC X d 225 [vR 100 0, vI p0] M none M2 := CC_of (by decide) trivial (Nat.le_of_ble_eq_true rfl) (by simp [c1]) h
-- ClayBootsModel.aDay, from 0
set_option maxRecDepth 100000 in
theorem w226_0 {X : Cx} {d : Nat} {M : Mem} {Q : Option Vl → Mem → Prop}
    (h : V X (d + 1) 226 4 [some (vR 100 0), some (vI 0), some (vI 0), none] [] M Q) :
    V X (d + 1) 226 0 [some (vR 100 0), none, none, none] [] M Q := wpn_sound (cuts := [(4, [true, true, true, false]), (56, [true, true, true, false]), (132, [true, true, true, false])]) ok226 5 0 _ _ _ h
-- ClayBootsModel.aDay, from 4
set_option maxRecDepth 100000 in
theorem w226_4 {X : Cx} {d : Nat} {M : Mem} {Q : Option Vl → Mem → Prop} {x1 x2 : Int32}
    (h : inb 234 2129 ∧ ((M.1 101 0 (ix 234)) ≤ x2 → V X (d + 1) 226 56 [some (vR 100 0), some (vI x1), some (vI 0), none] [] M Q) ∧ (¬ (M.1 101 0 (ix 234)) ≤ x2 → inb (431 + (3 * x2)) 2129 ∧ inb 3 2129 ∧ (¬ (M.1 101 0 (ix (431 + (3 * x2)))) = (M.1 101 0 (ix 3)) → V X (d + 1) 226 4 [some (vR 100 0), some (vI x1), some (vI (x2 + 1)), none] [] M Q) ∧ ((M.1 101 0 (ix (431 + (3 * x2)))) = (M.1 101 0 (ix 3)) → ∃ (M1 : Mem), CC X d 223 [vR 100 0, vI (431 + (3 * x2))] M none M1 ∧ V X (d + 1) 226 4 [some (vR 100 0), some (vI x1), some (vI (x2 + 1)), none] [] M1 Q))) :
    V X (d + 1) 226 4 [some (vR 100 0), some (vI x1), some (vI x2), none] [] M Q := wpn_sound (cuts := [(4, [true, true, true, false]), (56, [true, true, true, false]), (132, [true, true, true, false])]) ok226 29 4 _ _ _ h
-- ClayBootsModel.aDay, from 56
set_option maxRecDepth 100000 in
theorem w226_56 {X : Cx} {d : Nat} {M : Mem} {Q : Option Vl → Mem → Prop} {x1 x2 : Int32}
    (h : inb 233 2129 ∧ ((M.1 101 0 (ix 233)) ≤ x2 → V X (d + 1) 226 132 [some (vR 100 0), some (vI x1), some (vI 0), none] [] M Q) ∧ (¬ (M.1 101 0 (ix 233)) ≤ x2 → inb (287 + (9 * x2)) 2129 ∧ inb 3 2129 ∧ ((M.1 101 0 (ix (287 + (9 * x2)))) = (M.1 101 0 (ix 3)) → ∃ (M1 : Mem), CC X d 225 [vR 100 0, vI (287 + (9 * x2))] M none M1 ∧ inb ((287 + (9 * x2)) + 1) 2129 ∧ inb ((287 + (9 * x2)) + 2) 2129 ∧ ∃ (r1 : Int32) (M2 : Mem), CC X d 216 [vR 100 0, vI (M1.1 101 0 (ix ((287 + (9 * x2)) + 1))), vI (M1.1 101 0 (ix ((287 + (9 * x2)) + 2)))] M1 (some (vI r1)) M2 ∧ V X (d + 1) 226 56 [some (vR 100 0), some (vI (x1 + 1)), some (vI (x2 + 1)), none] [] M2 Q) ∧ (¬ (M.1 101 0 (ix (287 + (9 * x2)))) = (M.1 101 0 (ix 3)) → V X (d + 1) 226 56 [some (vR 100 0), some (vI x1), some (vI (x2 + 1)), none] [] M Q))) :
    V X (d + 1) 226 56 [some (vR 100 0), some (vI x1), some (vI x2), none] [] M Q := wpn_sound (cuts := [(4, [true, true, true, false]), (56, [true, true, true, false]), (132, [true, true, true, false])]) ok226 43 56 _ _ _ h
-- ClayBootsModel.aDay, from 132
set_option maxRecDepth 100000 in
theorem w226_132 {X : Cx} {d : Nat} {M : Mem} {Q : Option Vl → Mem → Prop} {x1 x2 : Int32}
    (h : inb 231 2129 ∧ ((M.1 101 0 (ix 231)) ≤ x2 → inb 3 2129 ∧ inb 3 2129 ∧ ∀ M1, M1 = st M 101 0 (ix 3) ((M.1 101 0 (ix 3)) + 1) → Q (some (vI x1)) M1) ∧ (¬ (M.1 101 0 (ix 231)) ≤ x2 → inb 1 2129 ∧ (¬ (M.1 101 0 (ix 1)) = 0 → inb 3 2129 ∧ inb 3 2129 ∧ ∀ M2, M2 = st M 101 0 (ix 3) ((M.1 101 0 (ix 3)) + 1) → Q (some (vI x1)) M2) ∧ ((M.1 101 0 (ix 1)) = 0 → ∃ (M3 : Mem), CC X d 224 [vR 100 0, vI x2] M none M3 ∧ V X (d + 1) 226 132 [some (vR 100 0), some (vI x1), some (vI (x2 + 1)), none] [] M3 Q))) :
    V X (d + 1) 226 132 [some (vR 100 0), some (vI x1), some (vI x2), none] [] M Q := wpn_sound (cuts := [(4, [true, true, true, false]), (56, [true, true, true, false]), (132, [true, true, true, false])]) ok226 22 132 _ _ _ h
theorem e226 {X : Cx} {d : Nat} {M M2 : Mem} {r : Int32} (h : V X d 226 0 [some (vR 100 0), none, none, none] [] M (fun r' M' => r' = (some (vI r)) ∧ M' = M2)) : CC X d 226 [vR 100 0] M (some (vI r)) M2 := CC_of (by decide) trivial (Nat.le_of_ble_eq_true rfl) (by simp [c1]) h
-- ClayBootsModel.days, from 0
set_option maxRecDepth 100000 in
theorem w227_0 {X : Cx} {d : Nat} {M : Mem} {Q : Option Vl → Mem → Prop} {p0 : Int32}
    (h : ∃ (r1 : Int32) (M1 : Mem), CC X d 151 [vI p0, vI 1, vI 60] M (some (vI r1)) M1 ∧ (r1 = 0 → Q (some (vI (-1))) M1) ∧ (¬ r1 = 0 → inb 3 2129 ∧ (((M1.1 101 0 (ix 3)) + p0) ≤ 9999 → V X (d + 1) 227 30 [some (vR 100 0), some (vI p0), some (vI 0), some (vI 0)] [] M1 Q) ∧ (¬ ((M1.1 101 0 (ix 3)) + p0) ≤ 9999 → Q (some (vI (-1))) M1))) :
    V X (d + 1) 227 0 [some (vR 100 0), some (vI p0), none, none] [] M Q := wpn_sound (cuts := [(30, [true, true, true, true])]) ok227 18 0 _ _ _ h
-- ClayBootsModel.days, from 30
set_option maxRecDepth 100000 in
theorem w227_30 {X : Cx} {d : Nat} {M : Mem} {Q : Option Vl → Mem → Prop} {x1 x2 x3 : Int32}
    (h : (x1 ≤ x3 → Q (some (vI x2)) M) ∧ (¬ x1 ≤ x3 → ∃ (M1 : Mem), CC X d 211 [vR 100 0] M none M1 ∧ ∃ (r1 : Int32) (M2 : Mem), CC X d 226 [vR 100 0] M1 (some (vI r1)) M2 ∧ V X (d + 1) 227 30 [some (vR 100 0), some (vI x1), some (vI (x2 + r1)), some (vI (x3 + 1))] [] M2 Q)) :
    V X (d + 1) 227 30 [some (vR 100 0), some (vI x1), some (vI x2), some (vI x3)] [] M Q := wpn_sound (cuts := [(30, [true, true, true, true])]) ok227 13 30 _ _ _ h
theorem e227 {X : Cx} {d : Nat} {M M2 : Mem} {p0 : Int32} {r : Int32} (h : V X d 227 0 [some (vR 100 0), some (vI p0), none, none] [] M (fun r' M' => r' = (some (vI r)) ∧ M' = M2)) : CC X d 227 [vR 100 0, vI p0] M (some (vI r)) M2 := CC_of (by decide) trivial (Nat.le_of_ble_eq_true rfl) (by simp [c1]) h
-- ClayBootsModel.of, from 0
set_option maxRecDepth 100000 in
theorem w228_0 {X : Cx} {d : Nat} {M : Mem} {Q : Option Vl → Mem → Prop} {p0 p1 : Int32}
    (h : ∃ (r1 : Int32) (M1 : Mem), CC X d 157 [vR 100 0, vI p0] M (some (vI r1)) M1 ∧ (¬ r1 = 0 → (p1 = 0 → inb (251 + p0) 2129 ∧ Q (some (vI (M1.1 101 0 (ix (251 + p0))))) M1) ∧ (¬ p1 = 0 → (p1 = 1 → inb (263 + p0) 2129 ∧ Q (some (vI (M1.1 101 0 (ix (263 + p0))))) M1) ∧ (¬ p1 = 1 → (p1 = 2 → inb (275 + p0) 2129 ∧ Q (some (vI (M1.1 101 0 (ix (275 + p0))))) M1) ∧ (¬ p1 = 2 → (p1 = 3 → inb (17 + p0) 2129 ∧ Q (some (vI (M1.1 101 0 (ix (17 + p0))))) M1) ∧ (¬ p1 = 3 → (p1 = 4 → ∃ (r2 : Int32) (M2 : Mem), CC X d 206 [vR 100 0, vI p0] M1 (some (vI r2)) M2 ∧ Q (some (vI r2)) M2) ∧ (¬ p1 = 4 → ∃ (r3 : Int32) (M3 : Mem), CC X d 155 [vR 100 0, vI (p1 - 10)] M1 (some (vI r3)) M3 ∧ (r3 = 0 → ∃ (r4 : Int32) (M4 : Mem), CC X d 155 [vR 100 0, vI (p1 - 20)] M3 (some (vI r4)) M4 ∧ (r4 = 0 → Q (some (vI (-1))) M4) ∧ (¬ r4 = 0 → ∃ (r5 : Int32) (M5 : Mem), CC X d 208 [vR 100 0, vI p0, vI (p1 - 20)] M4 (some (vI r5)) M5 ∧ Q (some (vI r5)) M5)) ∧ (¬ r3 = 0 → inb (((109 + (10 * p0)) + p1) - 10) 2129 ∧ Q (some (vI (M3.1 101 0 (ix (((109 + (10 * p0)) + p1) - 10))))) M3))))))) ∧ (r1 = 0 → Q (some (vI (-1))) M1)) :
    V X (d + 1) 228 0 [some (vR 100 0), some (vI p0), some (vI p1)] [] M Q := wpn_sound (cuts := []) ok228 27 0 _ _ _ h
theorem e228 {X : Cx} {d : Nat} {M M2 : Mem} {p0 p1 : Int32} {r : Int32} (h : V X d 228 0 [some (vR 100 0), some (vI p0), some (vI p1)] [] M (fun r' M' => r' = (some (vI r)) ∧ M' = M2)) : CC X d 228 [vR 100 0, vI p0, vI p1] M (some (vI r)) M2 := CC_of (by decide) trivial (Nat.le_of_ble_eq_true rfl) (by simp [c1]) h
-- ClayBootsModel.holder, from 0
set_option maxRecDepth 100000 in
theorem w229_0 {X : Cx} {d : Nat} {M : Mem} {Q : Option Vl → Mem → Prop} {p0 : Int32}
    (h : V X (d + 1) 229 4 [some (vR 100 0), some (vI p0), some (vI (-1)), some (vI 0)] [] M Q) :
    V X (d + 1) 229 0 [some (vR 100 0), some (vI p0), none, none] [] M Q := wpn_sound (cuts := [(4, [true, true, true, true])]) ok229 5 0 _ _ _ h
-- ClayBootsModel.holder, from 4
set_option maxRecDepth 100000 in
theorem w229_4 {X : Cx} {d : Nat} {M : Mem} {Q : Option Vl → Mem → Prop} {x1 x2 x3 : Int32}
    (h : inb 230 2129 ∧ ((M.1 101 0 (ix 230)) ≤ x3 → Q (some (vI x2)) M) ∧ (¬ (M.1 101 0 (ix 230)) ≤ x3 → inb ((29 + (10 * x3)) + x1) 2129 ∧ (¬ x2 = (-1) → inb ((29 + (10 * x2)) + x1) 2129 ∧ ((M.1 101 0 (ix ((29 + (10 * x3)) + x1))) ≤ (M.1 101 0 (ix ((29 + (10 * x2)) + x1))) → V X (d + 1) 229 4 [some (vR 100 0), some (vI x1), some (vI x2), some (vI (x3 + 1))] [] M Q) ∧ (¬ (M.1 101 0 (ix ((29 + (10 * x3)) + x1))) ≤ (M.1 101 0 (ix ((29 + (10 * x2)) + x1))) → V X (d + 1) 229 4 [some (vR 100 0), some (vI x1), some (vI x3), some (vI (x3 + 1))] [] M Q)) ∧ (x2 = (-1) → ((M.1 101 0 (ix ((29 + (10 * x3)) + x1))) ≤ 0 → V X (d + 1) 229 4 [some (vR 100 0), some (vI x1), some (vI x2), some (vI (x3 + 1))] [] M Q) ∧ (¬ (M.1 101 0 (ix ((29 + (10 * x3)) + x1))) ≤ 0 → V X (d + 1) 229 4 [some (vR 100 0), some (vI x1), some (vI x3), some (vI (x3 + 1))] [] M Q)))) :
    V X (d + 1) 229 4 [some (vR 100 0), some (vI x1), some (vI x2), some (vI x3)] [] M Q := wpn_sound (cuts := [(4, [true, true, true, true])]) ok229 35 4 _ _ _ h
theorem e229 {X : Cx} {d : Nat} {M M2 : Mem} {p0 : Int32} {r : Int32} (h : V X d 229 0 [some (vR 100 0), some (vI p0), none, none] [] M (fun r' M' => r' = (some (vI r)) ∧ M' = M2)) : CC X d 229 [vR 100 0, vI p0] M (some (vI r)) M2 := CC_of (by decide) trivial (Nat.le_of_ble_eq_true rfl) (by simp [c1]) h
-- ClayBootsModel.fieldOf, from 0
set_option maxRecDepth 100000 in
theorem w230_0 {X : Cx} {d : Nat} {M : Mem} {Q : Option Vl → Mem → Prop} {p0 p1 : Int32}
    (h : ∃ (r1 : Int32) (M1 : Mem), CC X d 155 [vR 100 0, vI p0] M (some (vI r1)) M1 ∧ (r1 = 0 → Q (some (vI (-2))) M1) ∧ (¬ r1 = 0 → ∃ (r2 : Int32) (M2 : Mem), CC X d 151 [vI p1, vI 0, vI 2] M1 (some (vI r2)) M2 ∧ (¬ r2 = 0 → (¬ p1 = 0 → (¬ p1 = 1 → ∃ (r3 : Int32) (M3 : Mem), CC X d 229 [vR 100 0, vI p0] M2 (some (vI r3)) M3 ∧ Q (some (vI r3)) M3) ∧ (p1 = 1 → inb (7 + p0) 2129 ∧ Q (some (vI (M2.1 101 0 (ix (7 + p0))))) M2)) ∧ (p1 = 0 → inb (241 + p0) 2129 ∧ Q (some (vI (M2.1 101 0 (ix (241 + p0))))) M2)) ∧ (r2 = 0 → Q (some (vI (-2))) M2))) :
    V X (d + 1) 230 0 [some (vR 100 0), some (vI p0), some (vI p1)] [] M Q := wpn_sound (cuts := []) ok230 23 0 _ _ _ h
theorem e230 {X : Cx} {d : Nat} {M M2 : Mem} {p0 p1 : Int32} {r : Int32} (h : V X d 230 0 [some (vR 100 0), some (vI p0), some (vI p1)] [] M (fun r' M' => r' = (some (vI r)) ∧ M' = M2)) : CC X d 230 [vR 100 0, vI p0, vI p1] M (some (vI r)) M2 := CC_of (by decide) trivial (Nat.le_of_ble_eq_true rfl) (by simp [c1]) h
-- ClayBootsModel.acres, from 0
set_option maxRecDepth 100000 in
theorem w231_0 {X : Cx} {d : Nat} {M : Mem} {Q : Option Vl → Mem → Prop} {p0 : Int32}
    (h : V X (d + 1) 231 4 [some (vR 100 0), some (vI p0), some (vI 0), some (vI 0)] [] M Q) :
    V X (d + 1) 231 0 [some (vR 100 0), some (vI p0), none, none] [] M Q := wpn_sound (cuts := [(4, [true, true, true, true])]) ok231 5 0 _ _ _ h
-- ClayBootsModel.acres, from 4
set_option maxRecDepth 100000 in
theorem w231_4 {X : Cx} {d : Nat} {M : Mem} {Q : Option Vl → Mem → Prop} {x1 x2 x3 : Int32}
    (h : (10 ≤ x3 → Q (some (vI x2)) M) ∧ (¬ 10 ≤ x3 → inb ((29 + (10 * x1)) + x3) 2129 ∧ V X (d + 1) 231 4 [some (vR 100 0), some (vI x1), some (vI (x2 + (M.1 101 0 (ix ((29 + (10 * x1)) + x3))))), some (vI (x3 + 1))] [] M Q)) :
    V X (d + 1) 231 4 [some (vR 100 0), some (vI x1), some (vI x2), some (vI x3)] [] M Q := wpn_sound (cuts := [(4, [true, true, true, true])]) ok231 19 4 _ _ _ h
theorem e231 {X : Cx} {d : Nat} {M M2 : Mem} {p0 : Int32} {r : Int32} (h : V X d 231 0 [some (vR 100 0), some (vI p0), none, none] [] M (fun r' M' => r' = (some (vI r)) ∧ M' = M2)) : CC X d 231 [vR 100 0, vI p0] M (some (vI r)) M2 := CC_of (by decide) trivial (Nat.le_of_ble_eq_true rfl) (by simp [c1]) h
-- ClayBootsModel.county, from 0
set_option maxRecDepth 100000 in
theorem w232_0 {X : Cx} {d : Nat} {M : Mem} {Q : Option Vl → Mem → Prop} {p0 : Int32}
    (h : V X (d + 1) 232 4 [some (vR 100 0), some (vI p0), some (vI 0), some (vI 0)] [] M Q) :
    V X (d + 1) 232 0 [some (vR 100 0), some (vI p0), none, none] [] M Q := wpn_sound (cuts := [(4, [true, true, true, true])]) ok232 5 0 _ _ _ h
-- ClayBootsModel.county, from 4
set_option maxRecDepth 100000 in
theorem w232_4 {X : Cx} {d : Nat} {M : Mem} {Q : Option Vl → Mem → Prop} {x1 x2 x3 : Int32}
    (h : inb 229 2129 ∧ ((M.1 101 0 (ix 229)) ≤ x3 → Q (some (vI x2)) M) ∧ (¬ (M.1 101 0 (ix 229)) ≤ x3 → ∃ (r1 : Int32) (M1 : Mem), CC X d 229 [vR 100 0, vI x3] M (some (vI r1)) M1 ∧ (¬ r1 = x1 → V X (d + 1) 232 4 [some (vR 100 0), some (vI x1), some (vI (x2 ||| 0)), some (vI (x3 + 1))] [] M1 Q) ∧ (r1 = x1 → V X (d + 1) 232 4 [some (vR 100 0), some (vI x1), some (vI (x2 ||| (1 <<< (x3 &&& 31)))), some (vI (x3 + 1))] [] M1 Q))) :
    V X (d + 1) 232 4 [some (vR 100 0), some (vI x1), some (vI x2), some (vI x3)] [] M Q := wpn_sound (cuts := [(4, [true, true, true, true])]) ok232 21 4 _ _ _ h
theorem e232 {X : Cx} {d : Nat} {M M2 : Mem} {p0 : Int32} {r : Int32} (h : V X d 232 0 [some (vR 100 0), some (vI p0), none, none] [] M (fun r' M' => r' = (some (vI r)) ∧ M' = M2)) : CC X d 232 [vR 100 0, vI p0] M (some (vI r)) M2 := CC_of (by decide) trivial (Nat.le_of_ble_eq_true rfl) (by simp [c1]) h
-- ClayBootsModel.doorOf, from 0
set_option maxRecDepth 100000 in
theorem w233_0 {X : Cx} {d : Nat} {M : Mem} {Q : Option Vl → Mem → Prop} {p0 p1 : Int32}
    (h : ∃ (r1 : Int32) (M1 : Mem), CC X d 156 [vR 100 0, vI p0] M (some (vI r1)) M1 ∧ (¬ r1 = 0 → (p1 = 0 → ∃ (r2 : Int32) (M2 : Mem), CC X d 158 [vR 100 0, vI p0] M1 (some (vI r2)) M2 ∧ (r2 = 0 → Q (some (vI 0)) M2) ∧ (¬ r2 = 0 → Q (some (vI 1)) M2)) ∧ (¬ p1 = 0 → (p1 = 1 → ∃ (r3 : Int32) (M3 : Mem), CC X d 231 [vR 100 0, vI p0] M1 (some (vI r3)) M3 ∧ Q (some (vI r3)) M3) ∧ (¬ p1 = 1 → (p1 = 2 → ∃ (r4 : Int32) (M4 : Mem), CC X d 232 [vR 100 0, vI p0] M1 (some (vI r4)) M4 ∧ Q (some (vI r4)) M4) ∧ (¬ p1 = 2 → ∃ (r5 : Int32) (M5 : Mem), CC X d 155 [vR 100 0, vI (p1 - 10)] M1 (some (vI r5)) M5 ∧ (r5 = 0 → ∃ (r6 : Int32) (M6 : Mem), CC X d 156 [vR 100 0, vI (p1 - 20)] M5 (some (vI r6)) M6 ∧ (r6 = 0 → Q (some (vI (-2))) M6) ∧ (¬ r6 = 0 → inb (((479 + (8 * p0)) + p1) - 20) 2129 ∧ Q (some (vI (M6.1 101 0 (ix (((479 + (8 * p0)) + p1) - 20))))) M6)) ∧ (¬ r5 = 0 → inb (((29 + (10 * p0)) + p1) - 10) 2129 ∧ Q (some (vI (M5.1 101 0 (ix (((29 + (10 * p0)) + p1) - 10))))) M5))))) ∧ (r1 = 0 → Q (some (vI (-2))) M1)) :
    V X (d + 1) 233 0 [some (vR 100 0), some (vI p0), some (vI p1)] [] M Q := wpn_sound (cuts := []) ok233 33 0 _ _ _ h
theorem e233 {X : Cx} {d : Nat} {M M2 : Mem} {p0 p1 : Int32} {r : Int32} (h : V X d 233 0 [some (vR 100 0), some (vI p0), some (vI p1)] [] M (fun r' M' => r' = (some (vI r)) ∧ M' = M2)) : CC X d 233 [vR 100 0, vI p0, vI p1] M (some (vI r)) M2 := CC_of (by decide) trivial (Nat.le_of_ble_eq_true rfl) (by simp [c1]) h
-- ClayBootsModel.tells, from 0
set_option maxRecDepth 100000 in
theorem w234_0 {X : Cx} {d : Nat} {M : Mem} {Q : Option Vl → Mem → Prop} {p0 p1 p2 p3 : Int32}
    (h : ∃ (r1 : Int32) (M1 : Mem), CC X d 157 [vR 100 0, vI p0] M (some (vI r1)) M1 ∧ (r1 = 0 → Q (some (vI (-1))) M1) ∧ (¬ r1 = 0 → ∃ (r2 : Int32) (M2 : Mem), CC X d 156 [vR 100 0, vI p2] M1 (some (vI r2)) M2 ∧ (r2 = 0 → Q (some (vI (-1))) M2) ∧ (¬ r2 = 0 → ∃ (r3 : Int32) (M3 : Mem), CC X d 151 [vI p3, vI 0, vI 1] M2 (some (vI r3)) M3 ∧ (r3 = 0 → Q (some (vI (-1))) M3) ∧ (¬ r3 = 0 → (¬ p3 = 0 → (¬ p3 = 0 → ∃ (r4 : Int32) (M4 : Mem), CC X d 210 [vR 100 0, vI p0, vI p2] M3 (some (vI r4)) M4 ∧ Q (some (vI r4)) M4) ∧ (p3 = 0 → ∃ (r5 : Int32) (M5 : Mem), CC X d 209 [vR 100 0, vI p0, vI p1, vI p2] M3 (some (vI r5)) M5 ∧ Q (some (vI r5)) M5)) ∧ (p3 = 0 → ∃ (r6 : Int32) (M6 : Mem), CC X d 155 [vR 100 0, vI p1] M3 (some (vI r6)) M6 ∧ (¬ r6 = 0 → (¬ p3 = 0 → ∃ (r7 : Int32) (M7 : Mem), CC X d 210 [vR 100 0, vI p0, vI p2] M6 (some (vI r7)) M7 ∧ Q (some (vI r7)) M7) ∧ (p3 = 0 → ∃ (r8 : Int32) (M8 : Mem), CC X d 209 [vR 100 0, vI p0, vI p1, vI p2] M6 (some (vI r8)) M8 ∧ Q (some (vI r8)) M8)) ∧ (r6 = 0 → Q (some (vI (-1))) M6)))))) :
    V X (d + 1) 234 0 [some (vR 100 0), some (vI p0), some (vI p1), some (vI p2), some (vI p3)] [] M Q := wpn_sound (cuts := []) ok234 29 0 _ _ _ h
theorem e234 {X : Cx} {d : Nat} {M M2 : Mem} {p0 p1 p2 p3 : Int32} {r : Int32} (h : V X d 234 0 [some (vR 100 0), some (vI p0), some (vI p1), some (vI p2), some (vI p3)] [] M (fun r' M' => r' = (some (vI r)) ∧ M' = M2)) : CC X d 234 [vR 100 0, vI p0, vI p1, vI p2, vI p3] M (some (vI r)) M2 := CC_of (by decide) trivial (Nat.le_of_ble_eq_true rfl) (by simp [c1]) h
-- ClayBootsModel.book, from 0
set_option maxRecDepth 100000 in
theorem w235_0 {X : Cx} {d : Nat} {M : Mem} {Q : Option Vl → Mem → Prop} {p0 p1 : Int32}
    (h : inb 5 2129 ∧ ∃ (r1 : Int32) (M1 : Mem), CC X d 151 [vI p0, vI 0, vI ((M.1 101 0 (ix 5)) - 1)] M (some (vI r1)) M1 ∧ (r1 = 0 → Q (some (vI (-1))) M1) ∧ (¬ r1 = 0 → ∃ (r2 : Int32) (M2 : Mem), CC X d 151 [vI p1, vI 0, vI 3] M1 (some (vI r2)) M2 ∧ (r2 = 0 → Q (some (vI (-1))) M2) ∧ (¬ r2 = 0 → inb ((645 + (4 * p0)) + p1) 2129 ∧ Q (some (vI (M2.1 101 0 (ix ((645 + (4 * p0)) + p1))))) M2))) :
    V X (d + 1) 235 0 [some (vR 100 0), some (vI p0), some (vI p1)] [] M Q := wpn_sound (cuts := []) ok235 28 0 _ _ _ h
theorem e235 {X : Cx} {d : Nat} {M M2 : Mem} {p0 p1 : Int32} {r : Int32} (h : V X d 235 0 [some (vR 100 0), some (vI p0), some (vI p1)] [] M (fun r' M' => r' = (some (vI r)) ∧ M' = M2)) : CC X d 235 [vR 100 0, vI p0, vI p1] M (some (vI r)) M2 := CC_of (by decide) trivial (Nat.le_of_ble_eq_true rfl) (by simp [c1]) h
-- ClayBootsModel.lays, from 0
set_option maxRecDepth 100000 in
theorem w236_0 {X : Cx} {d : Nat} {M : Mem} {Q : Option Vl → Mem → Prop}
    (h : V X (d + 1) 236 2 [some (vR 100 0), some (vI 0)] [] M Q) :
    V X (d + 1) 236 0 [some (vR 100 0), none] [] M Q := wpn_sound (cuts := [(2, [true, true])]) ok236 3 0 _ _ _ h
-- ClayBootsModel.lays, from 2
set_option maxRecDepth 100000 in
theorem w236_2 {X : Cx} {d : Nat} {M : Mem} {Q : Option Vl → Mem → Prop} {x1 : Int32}
    (h : (229 ≤ x1 → isB 0 ∧ ∀ M1, M1 = st M 100 0 26 0 → Q (none) M1) ∧ (¬ 229 ≤ x1 → inb x1 2129 ∧ inb x1 229 ∧ ∀ M2, M2 = st M 104 0 (ix x1) (M.1 101 0 (ix x1)) → V X (d + 1) 236 2 [some (vR 100 0), some (vI (x1 + 1))] [] M2 Q)) :
    V X (d + 1) 236 2 [some (vR 100 0), some (vI x1)] [] M Q := wpn_sound (cuts := [(2, [true, true])]) ok236 14 2 _ _ _ h
theorem e236 {X : Cx} {d : Nat} {M M2 : Mem} (h : V X d 236 0 [some (vR 100 0), none] [] M (fun r' M' => r' = none ∧ M' = M2)) : CC X d 236 [vR 100 0] M none M2 := CC_of (by decide) trivial (Nat.le_of_ble_eq_true rfl) (by simp [c1]) h
-- ClayBootsModel.putsBack, from 0
set_option maxRecDepth 100000 in
theorem w237_0 {X : Cx} {d : Nat} {M : Mem} {Q : Option Vl → Mem → Prop}
    (h : V X (d + 1) 237 2 [some (vR 100 0), some (vI 0)] [] M Q) :
    V X (d + 1) 237 0 [some (vR 100 0), none] [] M Q := wpn_sound (cuts := [(2, [true, true])]) ok237 3 0 _ _ _ h
-- ClayBootsModel.putsBack, from 2
set_option maxRecDepth 100000 in
theorem w237_2 {X : Cx} {d : Nat} {M : Mem} {Q : Option Vl → Mem → Prop} {x1 : Int32}
    (h : (229 ≤ x1 → Q (none) M) ∧ (¬ 229 ≤ x1 → inb x1 229 ∧ inb x1 2129 ∧ ∀ M1, M1 = st M 101 0 (ix x1) (M.1 104 0 (ix x1)) → V X (d + 1) 237 2 [some (vR 100 0), some (vI (x1 + 1))] [] M1 Q)) :
    V X (d + 1) 237 2 [some (vR 100 0), some (vI x1)] [] M Q := wpn_sound (cuts := [(2, [true, true])]) ok237 14 2 _ _ _ h
theorem e237 {X : Cx} {d : Nat} {M M2 : Mem} (h : V X d 237 0 [some (vR 100 0), none] [] M (fun r' M' => r' = none ∧ M' = M2)) : CC X d 237 [vR 100 0] M none M2 := CC_of (by decide) trivial (Nat.le_of_ble_eq_true rfl) (by simp [c1]) h
-- ClayBootsModel.goes, from 0
set_option maxRecDepth 100000 in
theorem w238_0 {X : Cx} {d : Nat} {M : Mem} {Q : Option Vl → Mem → Prop} {p0 p1 : Int32}
    (h : ∃ (r1 : Int32) (M1 : Mem), CC X d 151 [vI p0, vI 1, vI 60] M (some (vI r1)) M1 ∧ (r1 = 0 → Q (some (vI (-1))) M1) ∧ (¬ r1 = 0 → ∃ (r2 : Int32) (M2 : Mem), CC X d 151 [vI p1, vI 0, vI 2] M1 (some (vI r2)) M2 ∧ (¬ r2 = 0 → ∃ (M3 : Mem), CC X d 236 [vR 100 0] M2 none M3 ∧ V X (d + 1) 238 27 [some (vR 100 0), some (vI p0), some (vI p1), some (vI 0), none] [] M3 Q) ∧ (r2 = 0 → Q (some (vI (-1))) M2))) :
    V X (d + 1) 238 0 [some (vR 100 0), some (vI p0), some (vI p1), none, none] [] M Q := wpn_sound (cuts := [(27, [true, true, true, true, false]), (61, [true, false, true, true, true]), (97, [true, false, true, true, true])]) ok238 15 0 _ _ _ h
-- ClayBootsModel.goes, from 27
set_option maxRecDepth 100000 in
theorem w238_27 {X : Cx} {d : Nat} {M : Mem} {Q : Option Vl → Mem → Prop} {x1 x2 x3 : Int32}
    (h : (x1 ≤ x3 → (¬ x2 = 0 → V X (d + 1) 238 61 [some (vR 100 0), none, some (vI x2), some (vI 0), some (vI 0)] [] M Q) ∧ (x2 = 0 → inb 2 2129 ∧ V X (d + 1) 238 61 [some (vR 100 0), none, some (vI x2), some (vI (M.1 101 0 (ix 2))), some (vI 0)] [] M Q)) ∧ (¬ x1 ≤ x3 → ∃ (r1 : Int32) (M1 : Mem), CC X d 226 [vR 100 0] M (some (vI r1)) M1 ∧ V X (d + 1) 238 27 [some (vR 100 0), some (vI x1), some (vI x2), some (vI (x3 + 1)), none] [] M1 Q)) :
    V X (d + 1) 238 27 [some (vR 100 0), some (vI x1), some (vI x2), some (vI x3), none] [] M Q := wpn_sound (cuts := [(27, [true, true, true, true, false]), (61, [true, false, true, true, true]), (97, [true, false, true, true, true])]) ok238 14 27 _ _ _ h
-- ClayBootsModel.goes, from 61
set_option maxRecDepth 100000 in
theorem w238_61 {X : Cx} {d : Nat} {M : Mem} {Q : Option Vl → Mem → Prop} {x2 x3 x4 : Int32}
    (h : inb 231 2129 ∧ ((M.1 101 0 (ix 231)) ≤ x4 → V X (d + 1) 238 97 [some (vR 100 0), none, some (vI x2), some (vI x3), some (vI 0)] [] M Q) ∧ (¬ (M.1 101 0 (ix 231)) ≤ x4 → (¬ x2 = 1 → V X (d + 1) 238 97 [some (vR 100 0), none, some (vI x2), some (vI x3), some (vI 0)] [] M Q) ∧ (x2 = 1 → ∃ (r1 : Int32) (M1 : Mem), CC X d 206 [vR 100 0, vI x4] M (some (vI r1)) M1 ∧ V X (d + 1) 238 61 [some (vR 100 0), none, some (vI x2), some (vI (x3 + r1)), some (vI (x4 + 1))] [] M1 Q))) :
    V X (d + 1) 238 61 [some (vR 100 0), none, some (vI x2), some (vI x3), some (vI x4)] [] M Q := wpn_sound (cuts := [(27, [true, true, true, true, false]), (61, [true, false, true, true, true]), (97, [true, false, true, true, true])]) ok238 18 61 _ _ _ h
-- ClayBootsModel.goes, from 97
set_option maxRecDepth 100000 in
theorem w238_97 {X : Cx} {d : Nat} {M : Mem} {Q : Option Vl → Mem → Prop} {x2 x3 x4 : Int32}
    (h : inb 229 2129 ∧ ((M.1 101 0 (ix 229)) ≤ x4 → ∃ (M1 : Mem), CC X d 237 [vR 100 0] M none M1 ∧ Q (some (vI x3)) M1) ∧ (¬ (M.1 101 0 (ix 229)) ≤ x4 → (¬ x2 = 2 → ∃ (M2 : Mem), CC X d 237 [vR 100 0] M none M2 ∧ Q (some (vI x3)) M2) ∧ (x2 = 2 → ∃ (r1 : Int32) (M3 : Mem), CC X d 229 [vR 100 0, vI x4] M (some (vI r1)) M3 ∧ (¬ r1 = (-1) → V X (d + 1) 238 97 [some (vR 100 0), none, some (vI x2), some (vI (x3 + 1)), some (vI (x4 + 1))] [] M3 Q) ∧ (r1 = (-1) → V X (d + 1) 238 97 [some (vR 100 0), none, some (vI x2), some (vI (x3 + 0)), some (vI (x4 + 1))] [] M3 Q)))) :
    V X (d + 1) 238 97 [some (vR 100 0), none, some (vI x2), some (vI x3), some (vI x4)] [] M Q := wpn_sound (cuts := [(27, [true, true, true, true, false]), (61, [true, false, true, true, true]), (97, [true, false, true, true, true])]) ok238 22 97 _ _ _ h
theorem e238 {X : Cx} {d : Nat} {M M2 : Mem} {p0 p1 : Int32} {r : Int32} (h : V X d 238 0 [some (vR 100 0), some (vI p0), some (vI p1), none, none] [] M (fun r' M' => r' = (some (vI r)) ∧ M' = M2)) : CC X d 238 [vR 100 0, vI p0, vI p1] M (some (vI r)) M2 := CC_of (by decide) trivial (Nat.le_of_ble_eq_true rfl) (by simp [c1]) h
-- ClayBootsModel.are, from 0
set_option maxRecDepth 100000 in
theorem w239_0 {X : Cx} {d : Nat} {M : Mem} {Q : Option Vl → Mem → Prop} {p0 p1 p2 : Int32}
    (h : ∃ (r1 : Int32) (M1 : Mem), CC X d 157 [vR 100 0, vI p0] M (some (vI r1)) M1 ∧ (r1 = 0 → isB 0 ∧ Q (some (vI 0)) M1) ∧ (¬ r1 = 0 → ∃ (r2 : Int32) (M2 : Mem), CC X d 155 [vR 100 0, vI p1] M1 (some (vI r2)) M2 ∧ (r2 = 0 → isB 0 ∧ Q (some (vI 0)) M2) ∧ (¬ r2 = 0 → ∃ (r3 : Int32) (M3 : Mem), CC X d 156 [vR 100 0, vI p2] M2 (some (vI r3)) M3 ∧ (r3 = 0 → isB 0 ∧ Q (some (vI 0)) M3) ∧ (¬ r3 = 0 → isB 1 ∧ Q (some (vI 1)) M3)))) :
    V X (d + 1) 239 0 [some (vR 100 0), some (vI p0), some (vI p1), some (vI p2)] [] M Q := wpn_sound (cuts := []) ok239 16 0 _ _ _ h
theorem e239 {X : Cx} {d : Nat} {M M2 : Mem} {p0 p1 p2 : Int32} {r : Int32} (h : V X d 239 0 [some (vR 100 0), some (vI p0), some (vI p1), some (vI p2)] [] M (fun r' M' => r' = (some (vI r)) ∧ M' = M2)) : CC X d 239 [vR 100 0, vI p0, vI p1, vI p2] M (some (vI r)) M2 := CC_of (by decide) trivial (Nat.le_of_ble_eq_true rfl) (by simp [c1]) h
-- ClayBootsModel.would, from 0
set_option maxRecDepth 100000 in
theorem w240_0 {X : Cx} {d : Nat} {M : Mem} {Q : Option Vl → Mem → Prop} {p0 p1 p2 p3 : Int32}
    (h : ∃ (r1 : Int32) (M1 : Mem), CC X d 239 [vR 100 0, vI p0, vI p1, vI p2] M (some (vI r1)) M1 ∧ (r1 = 0 → Q (some (vI (-1))) M1) ∧ (¬ r1 = 0 → ∃ (r2 : Int32) (M2 : Mem), CC X d 151 [vI p3, vI 0, vI 1] M1 (some (vI r2)) M2 ∧ (¬ r2 = 0 → ∃ (M3 : Mem), CC X d 236 [vR 100 0] M2 none M3 ∧ inb 0 6 ∧ ∀ M4, M4 = st M3 111 0 (ix 0) p1 → ∀ M5, M5 = st M4 100 0 28 1 → ∃ (r3 : Int32) (M6 : Mem), CC X d 216 [vR 100 0, vI p0, vI p2] M5 (some (vI r3)) M6 ∧ ∃ (M7 : Mem), CC X d 237 [vR 100 0] M6 none M7 ∧ (¬ p3 = 0 → Q (some (vI (M7.1 100 0 29))) M7) ∧ (p3 = 0 → Q (some (vI r3)) M7)) ∧ (r2 = 0 → Q (some (vI (-1))) M2))) :
    V X (d + 1) 240 0 [some (vR 100 0), some (vI p0), some (vI p1), some (vI p2), some (vI p3), none] [] M Q := wpn_sound (cuts := []) ok240 34 0 _ _ _ h
theorem e240 {X : Cx} {d : Nat} {M M2 : Mem} {p0 p1 p2 p3 : Int32} {r : Int32} (h : V X d 240 0 [some (vR 100 0), some (vI p0), some (vI p1), some (vI p2), some (vI p3), none] [] M (fun r' M' => r' = (some (vI r)) ∧ M' = M2)) : CC X d 240 [vR 100 0, vI p0, vI p1, vI p2, vI p3] M (some (vI r)) M2 := CC_of (by decide) trivial (Nat.le_of_ble_eq_true rfl) (by simp [c1]) h
-- ClayBootsModel.many, from 0
set_option maxRecDepth 100000 in
theorem w241_0 {X : Cx} {d : Nat} {M : Mem} {Q : Option Vl → Mem → Prop} {p0 p1 p2 p3 : Int32}
    (h : ∃ (r1 : Int32) (M1 : Mem), CC X d 239 [vR 100 0, vI p0, vI p1, vI p2] M (some (vI r1)) M1 ∧ (r1 = 0 → Q (some (vI (-1))) M1) ∧ (¬ r1 = 0 → ∃ (r2 : Int32) (M2 : Mem), CC X d 151 [vI p3, vI 1, vI 9999] M1 (some (vI r2)) M2 ∧ (¬ r2 = 0 → ∃ (M3 : Mem), CC X d 236 [vR 100 0] M2 none M3 ∧ inb 0 6 ∧ ∀ M4, M4 = st M3 111 0 (ix 0) p1 → ∀ M5, M5 = st M4 100 0 28 1 → V X (d + 1) 241 43 [some (vR 100 0), some (vI p0), some (vI p1), some (vI p2), some (vI p3), some (vI 0)] [] M5 Q) ∧ (r2 = 0 → Q (some (vI (-1))) M2))) :
    V X (d + 1) 241 0 [some (vR 100 0), some (vI p0), some (vI p1), some (vI p2), some (vI p3), none] [] M Q := wpn_sound (cuts := [(43, [true, true, true, true, true, true])]) ok241 24 0 _ _ _ h
-- ClayBootsModel.many, from 43
set_option maxRecDepth 100000 in
theorem w241_43 {X : Cx} {d : Nat} {M : Mem} {Q : Option Vl → Mem → Prop} {x1 x2 x3 x4 x5 : Int32}
    (h : (100 ≤ x5 → ∃ (M1 : Mem), CC X d 237 [vR 100 0] M none M1 ∧ (¬ x5 = 100 → Q (some (vI x5)) M1) ∧ (x5 = 100 → Q (some (vI (-1))) M1)) ∧ (¬ 100 ≤ x5 → inb ((29 + (10 * x3)) + x2) 2129 ∧ (x4 ≤ (M.1 101 0 (ix ((29 + (10 * x3)) + x2))) → ∃ (M2 : Mem), CC X d 237 [vR 100 0] M none M2 ∧ (¬ x5 = 100 → Q (some (vI x5)) M2) ∧ (x5 = 100 → Q (some (vI (-1))) M2)) ∧ (¬ x4 ≤ (M.1 101 0 (ix ((29 + (10 * x3)) + x2))) → ∃ (r1 : Int32) (M3 : Mem), CC X d 216 [vR 100 0, vI x1, vI x3] M (some (vI r1)) M3 ∧ V X (d + 1) 241 43 [some (vR 100 0), some (vI x1), some (vI x2), some (vI x3), some (vI x4), some (vI (x5 + 1))] [] M3 Q))) :
    V X (d + 1) 241 43 [some (vR 100 0), some (vI x1), some (vI x2), some (vI x3), some (vI x4), some (vI x5)] [] M Q := wpn_sound (cuts := [(43, [true, true, true, true, true, true])]) ok241 24 43 _ _ _ h
theorem e241 {X : Cx} {d : Nat} {M M2 : Mem} {p0 p1 p2 p3 : Int32} {r : Int32} (h : V X d 241 0 [some (vR 100 0), some (vI p0), some (vI p1), some (vI p2), some (vI p3), none] [] M (fun r' M' => r' = (some (vI r)) ∧ M' = M2)) : CC X d 241 [vR 100 0, vI p0, vI p1, vI p2, vI p3] M (some (vI r)) M2 := CC_of (by decide) trivial (Nat.le_of_ble_eq_true rfl) (by simp [c1]) h
-- ClayBootsModel.laysOrder, from 0
set_option maxRecDepth 100000 in
theorem w242_0 {X : Cx} {d : Nat} {M : Mem} {Q : Option Vl → Mem → Prop} {p0 p1 : Int32}
    (h : V X (d + 1) 242 10 [some (vR 100 0), none, some (vI p1), some (vI p0), some (vI 0), some (vI (p1 - 1))] [] M Q) :
    V X (d + 1) 242 0 [some (vR 100 0), some (vI p0), some (vI p1), none, none, none] [] M Q := wpn_sound (cuts := [(10, [true, false, true, true, true, true])]) ok242 9 0 _ _ _ h
-- ClayBootsModel.laysOrder, from 10
set_option maxRecDepth 100000 in
theorem w242_10 {X : Cx} {d : Nat} {M : Mem} {Q : Option Vl → Mem → Prop} {x2 x3 x4 x5 : Int32}
    (h : (x5 < 0 → ∀ M1, M1 = st M 100 0 28 x2 → (¬ x4 = ((1 <<< (x2 &&& 31)) - 1) → isB 0 ∧ Q (some (vI 0)) M1) ∧ (x4 = ((1 <<< (x2 &&& 31)) - 1) → isB 1 ∧ Q (some (vI 1)) M1)) ∧ (¬ x5 < 0 → ¬ x2 = 0 ∧ inb (x3 % x2) 5 ∧ inb x5 6 ∧ ∀ M2, M2 = st M 111 0 (ix x5) (M.1 112 0 (ix (x3 % x2))) → ¬ x2 = 0 ∧ ¬ x2 = 0 ∧ V X (d + 1) 242 10 [some (vR 100 0), none, some (vI x2), some (vI (x3 / x2)), some (vI (x4 ||| (1 <<< ((x3 % x2) &&& 31)))), some (vI (x5 + (-1)))] [] M2 Q)) :
    V X (d + 1) 242 10 [some (vR 100 0), none, some (vI x2), some (vI x3), some (vI x4), some (vI x5)] [] M Q := wpn_sound (cuts := [(10, [true, false, true, true, true, true])]) ok242 27 10 _ _ _ h
theorem e242 {X : Cx} {d : Nat} {M M2 : Mem} {p0 p1 : Int32} {r : Int32} (h : V X d 242 0 [some (vR 100 0), some (vI p0), some (vI p1), none, none, none] [] M (fun r' M' => r' = (some (vI r)) ∧ M' = M2)) : CC X d 242 [vR 100 0, vI p0, vI p1] M (some (vI r)) M2 := CC_of (by decide) trivial (Nat.le_of_ble_eq_true rfl) (by simp [c1]) h
-- ClayBootsModel.order, from 0
set_option maxRecDepth 100000 in
theorem w243_0 {X : Cx} {d : Nat} {M : Mem} {Q : Option Vl → Mem → Prop} {p0 p1 p2 p3 : Int32}
    (h : ∃ (r1 : Int32) (M1 : Mem), CC X d 157 [vR 100 0, vI p0] M (some (vI r1)) M1 ∧ (r1 = 0 → Q (some (vI (-1))) M1) ∧ (¬ r1 = 0 → ∃ (r2 : Int32) (M2 : Mem), CC X d 156 [vR 100 0, vI p1] M1 (some (vI r2)) M2 ∧ (r2 = 0 → Q (some (vI (-1))) M2) ∧ (¬ r2 = 0 → inb 229 2129 ∧ ∃ (r3 : Int32) (M3 : Mem), CC X d 151 [vI p2, vI 1, vI ((1 <<< ((M2.1 101 0 (ix 229)) &&& 31)) - 1)] M2 (some (vI r3)) M3 ∧ (¬ r3 = 0 → V X (d + 1) 243 44 [some (vR 100 0), some (vI p0), some (vI p1), some (vI p2), some (vI p3), some (vI 0), some (vI 0), none, none, none, none] [] M3 Q) ∧ (r3 = 0 → Q (some (vI (-1))) M3)))) :
    V X (d + 1) 243 0 [some (vR 100 0), some (vI p0), some (vI p1), some (vI p2), some (vI p3), none, none, none, none, none, none] [] M Q := wpn_sound (cuts := [(44, [true, true, true, true, true, true, true, false, false, false, false]), (123, [true, true, true, false, true, true, true, true, false, false, false]), (149, [true, true, true, false, true, true, true, true, true, false, false]), (203, [true, true, true, false, true, true, true, true, true, false, true])]) ok243 25 0 _ _ _ h
-- ClayBootsModel.order, from 44
set_option maxRecDepth 100000 in
theorem w243_44 {X : Cx} {d : Nat} {M : Mem} {Q : Option Vl → Mem → Prop} {x1 x2 x3 x4 x5 x6 : Int32}
    (h : inb 229 2129 ∧ ((M.1 101 0 (ix 229)) ≤ x6 → (x4 = 0 → V X (d + 1) 243 123 [some (vR 100 0), some (vI x1), some (vI x2), none, some (vI x4), some (vI x5), some (vI 1), some (vI 0), none, none, none] [] M Q) ∧ (¬ x4 = 0 → ∃ (r1 : Int32) (M1 : Mem), CC X d 151 [vI x4, vI 10, vI (9 + x5)] M (some (vI r1)) M1 ∧ (¬ r1 = 0 → V X (d + 1) 243 123 [some (vR 100 0), some (vI x1), some (vI x2), none, some (vI x4), some (vI x5), some (vI 1), some (vI 0), none, none, none] [] M1 Q) ∧ (r1 = 0 → Q (some (vI (-1))) M1))) ∧ (¬ (M.1 101 0 (ix 229)) ≤ x6 → (¬ ((x3 >>> (x6 &&& 31)) &&& 1) = 0 → (¬ x5 = 5 → inb x5 5 ∧ ∀ M2, M2 = st M 112 0 (ix x5) x6 → V X (d + 1) 243 44 [some (vR 100 0), some (vI x1), some (vI x2), some (vI x3), some (vI x4), some (vI (x5 + 1)), some (vI (x6 + 1)), none, none, none, none] [] M2 Q) ∧ (x5 = 5 → Q (some (vI (-1))) M)) ∧ (((x3 >>> (x6 &&& 31)) &&& 1) = 0 → V X (d + 1) 243 44 [some (vR 100 0), some (vI x1), some (vI x2), some (vI x3), some (vI x4), some (vI x5), some (vI (x6 + 1)), none, none, none, none] [] M Q))) :
    V X (d + 1) 243 44 [some (vR 100 0), some (vI x1), some (vI x2), some (vI x3), some (vI x4), some (vI x5), some (vI x6), none, none, none, none] [] M Q := wpn_sound (cuts := [(44, [true, true, true, true, true, true, true, false, false, false, false]), (123, [true, true, true, false, true, true, true, true, false, false, false]), (149, [true, true, true, false, true, true, true, true, true, false, false]), (203, [true, true, true, false, true, true, true, true, true, false, true])]) ok243 24 44 _ _ _ h
-- ClayBootsModel.order, from 123
set_option maxRecDepth 100000 in
theorem w243_123 {X : Cx} {d : Nat} {M : Mem} {Q : Option Vl → Mem → Prop} {x1 x2 x4 x5 x6 x7 : Int32}
    (h : (x5 ≤ x7 → V X (d + 1) 243 149 [some (vR 100 0), some (vI x1), some (vI x2), none, some (vI x4), some (vI x5), some (vI x6), some (vI (-1)), some (vI 0), none, none] [] M Q) ∧ (¬ x5 ≤ x7 → V X (d + 1) 243 123 [some (vR 100 0), some (vI x1), some (vI x2), none, some (vI x4), some (vI x5), some (vI (x6 * x5)), some (vI (x7 + 1)), none, none, none] [] M Q)) :
    V X (d + 1) 243 123 [some (vR 100 0), some (vI x1), some (vI x2), none, some (vI x4), some (vI x5), some (vI x6), some (vI x7), none, none, none] [] M Q := wpn_sound (cuts := [(44, [true, true, true, true, true, true, true, false, false, false, false]), (123, [true, true, true, false, true, true, true, true, false, false, false]), (149, [true, true, true, false, true, true, true, true, true, false, false]), (203, [true, true, true, false, true, true, true, true, true, false, true])]) ok243 10 123 _ _ _ h
-- ClayBootsModel.order, from 149
set_option maxRecDepth 100000 in
theorem w243_149 {X : Cx} {d : Nat} {M : Mem} {Q : Option Vl → Mem → Prop} {x1 x2 x4 x5 x6 x7 x8 : Int32}
    (h : (x6 ≤ x8 → (¬ x4 = 0 → inb (x4 - 10) 6 ∧ Q (some (vI (M.1 113 0 (ix (x4 - 10))))) M) ∧ (x4 = 0 → Q (some (vI x7)) M)) ∧ (¬ x6 ≤ x8 → ∃ (r1 : Int32) (M1 : Mem), CC X d 242 [vR 100 0, vI x8, vI x5] M (some (vI r1)) M1 ∧ (¬ r1 = 0 → ∃ (M2 : Mem), CC X d 236 [vR 100 0] M1 none M2 ∧ ∃ (r2 : Int32) (M3 : Mem), CC X d 216 [vR 100 0, vI x1, vI x2] M2 (some (vI r2)) M3 ∧ ∃ (M4 : Mem), CC X d 237 [vR 100 0] M3 none M4 ∧ (x7 < r2 → V X (d + 1) 243 203 [some (vR 100 0), some (vI x1), some (vI x2), none, some (vI x4), some (vI x5), some (vI x6), some (vI r2), some (vI x8), none, some (vI 0)] [] M4 Q) ∧ (¬ x7 < r2 → V X (d + 1) 243 149 [some (vR 100 0), some (vI x1), some (vI x2), none, some (vI x4), some (vI x5), some (vI x6), some (vI x7), some (vI (x8 + 1)), none, none] [] M4 Q)) ∧ (r1 = 0 → V X (d + 1) 243 149 [some (vR 100 0), some (vI x1), some (vI x2), none, some (vI x4), some (vI x5), some (vI x6), some (vI x7), some (vI (x8 + 1)), none, none] [] M1 Q))) :
    V X (d + 1) 243 149 [some (vR 100 0), some (vI x1), some (vI x2), none, some (vI x4), some (vI x5), some (vI x6), some (vI x7), some (vI x8), none, none] [] M Q := wpn_sound (cuts := [(44, [true, true, true, true, true, true, true, false, false, false, false]), (123, [true, true, true, false, true, true, true, true, false, false, false]), (149, [true, true, true, false, true, true, true, true, true, false, false]), (203, [true, true, true, false, true, true, true, true, true, false, true])]) ok243 25 149 _ _ _ h
-- ClayBootsModel.order, from 203
set_option maxRecDepth 100000 in
theorem w243_203 {X : Cx} {d : Nat} {M : Mem} {Q : Option Vl → Mem → Prop} {x1 x10 x2 x4 x5 x6 x7 x8 : Int32}
    (h : (x5 ≤ x10 → V X (d + 1) 243 149 [some (vR 100 0), some (vI x1), some (vI x2), none, some (vI x4), some (vI x5), some (vI x6), some (vI x7), some (vI (x8 + 1)), none, none] [] M Q) ∧ (¬ x5 ≤ x10 → inb x10 6 ∧ inb x10 6 ∧ ∀ M1, M1 = st M 113 0 (ix x10) (M.1 111 0 (ix x10)) → V X (d + 1) 243 203 [some (vR 100 0), some (vI x1), some (vI x2), none, some (vI x4), some (vI x5), some (vI x6), some (vI x7), some (vI x8), none, some (vI (x10 + 1))] [] M1 Q)) :
    V X (d + 1) 243 203 [some (vR 100 0), some (vI x1), some (vI x2), none, some (vI x4), some (vI x5), some (vI x6), some (vI x7), some (vI x8), none, some (vI x10)] [] M Q := wpn_sound (cuts := [(44, [true, true, true, true, true, true, true, false, false, false, false]), (123, [true, true, true, false, true, true, true, true, false, false, false]), (149, [true, true, true, false, true, true, true, true, true, false, false]), (203, [true, true, true, false, true, true, true, true, true, false, true])]) ok243 14 203 _ _ _ h
theorem e243 {X : Cx} {d : Nat} {M M2 : Mem} {p0 p1 p2 p3 : Int32} {r : Int32} (h : V X d 243 0 [some (vR 100 0), some (vI p0), some (vI p1), some (vI p2), some (vI p3), none, none, none, none, none, none] [] M (fun r' M' => r' = (some (vI r)) ∧ M' = M2)) : CC X d 243 [vR 100 0, vI p0, vI p1, vI p2, vI p3] M (some (vI r)) M2 := CC_of (by decide) trivial (Nat.le_of_ble_eq_true rfl) (by simp [c1]) h
-- ClayBootsModel.clay, from 0
set_option maxRecDepth 100000 in
theorem w244_0 {X : Cx} {d : Nat} {M : Mem} {Q : Option Vl → Mem → Prop} {p0 p1 : Int32}
    (h : ∃ (r1 : Int32) (M1 : Mem), CC X d 151 [vI p0, vI 0, vI 5] M (some (vI r1)) M1 ∧ (r1 = 0 → isB 0 ∧ Q (some (vI 0)) M1) ∧ (¬ r1 = 0 → ∃ (r2 : Int32) (M2 : Mem), CC X d 151 [vI p1, vI 0, vI 30] M1 (some (vI r2)) M2 ∧ (¬ r2 = 0 → inb (543 + p0) 2129 ∧ ∀ M3, M3 = st M2 101 0 (ix (543 + p0)) p1 → isB 1 ∧ Q (some (vI 1)) M3) ∧ (r2 = 0 → isB 0 ∧ Q (some (vI 0)) M2))) :
    V X (d + 1) 244 0 [some (vR 100 0), some (vI p0), some (vI p1)] [] M Q := wpn_sound (cuts := []) ok244 20 0 _ _ _ h
theorem e244 {X : Cx} {d : Nat} {M M2 : Mem} {p0 p1 : Int32} {r : Int32} (h : V X d 244 0 [some (vR 100 0), some (vI p0), some (vI p1)] [] M (fun r' M' => r' = (some (vI r)) ∧ M' = M2)) : CC X d 244 [vR 100 0, vI p0, vI p1] M (some (vI r)) M2 := CC_of (by decide) trivial (Nat.le_of_ble_eq_true rfl) (by simp [c1]) h
-- ClayBootsModel.mixOf, from 0
set_option maxRecDepth 100000 in
theorem w245_0 {X : Cx} {d : Nat} {M : Mem} {Q : Option Vl → Mem → Prop} {p0 : Int32}
    (h : V X (d + 1) 245 2 [some (vR 100 0), some (vI p0), some (vI 0), none, none] [] M Q) :
    V X (d + 1) 245 0 [some (vR 100 0), some (vI p0), none, none, none] [] M Q := wpn_sound (cuts := [(2, [true, true, true, false, false]), (31, [true, true, true, false, false]), (63, [true, true, true, true, false]), (70, [true, true, true, true, true])]) ok245 3 0 _ _ _ h
-- ClayBootsModel.mixOf, from 2
set_option maxRecDepth 100000 in
theorem w245_2 {X : Cx} {d : Nat} {M : Mem} {Q : Option Vl → Mem → Prop} {x1 x2 : Int32}
    (h : (31 ≤ x2 → V X (d + 1) 245 31 [some (vR 100 0), some (vI x1), some (vI 0), none, none] [] M Q) ∧ (¬ 31 ≤ x2 → (¬ x2 = 0 → inb x2 31 ∧ ∀ M1, M1 = stL M 114 0 (ix x2) (Int64.ofNat 0) → V X (d + 1) 245 2 [some (vR 100 0), some (vI x1), some (vI (x2 + 1)), none, none] [] M1 Q) ∧ (x2 = 0 → inb x2 31 ∧ ∀ M2, M2 = stL M 114 0 (ix x2) (Int64.ofNat 1) → V X (d + 1) 245 2 [some (vR 100 0), some (vI x1), some (vI (x2 + 1)), none, none] [] M2 Q))) :
    V X (d + 1) 245 2 [some (vR 100 0), some (vI x1), some (vI x2), none, none] [] M Q := wpn_sound (cuts := [(2, [true, true, true, false, false]), (31, [true, true, true, false, false]), (63, [true, true, true, true, false]), (70, [true, true, true, true, true])]) ok245 14 2 _ _ _ h
-- ClayBootsModel.mixOf, from 31
set_option maxRecDepth 100000 in
theorem w245_31 {X : Cx} {d : Nat} {M : Mem} {Q : Option Vl → Mem → Prop} {x1 x2 : Int32}
    (h : inb 229 2129 ∧ ((M.1 101 0 (ix 229)) ≤ x2 → inb (543 + x1) 2129 ∧ inb (M.1 101 0 (ix (543 + x1))) 31 ∧ Q (some (vJ (M.2 114 0 (ix (M.1 101 0 (ix (543 + x1))))))) M) ∧ (¬ (M.1 101 0 (ix 229)) ≤ x2 → inb (241 + x2) 2129 ∧ ((M.1 101 0 (ix (241 + x2))) = x1 → V X (d + 1) 245 63 [some (vR 100 0), some (vI x1), some (vI x2), some (vI 30), none] [] M Q) ∧ (¬ (M.1 101 0 (ix (241 + x2))) = x1 → V X (d + 1) 245 31 [some (vR 100 0), some (vI x1), some (vI (x2 + 1)), none, none] [] M Q))) :
    V X (d + 1) 245 31 [some (vR 100 0), some (vI x1), some (vI x2), none, none] [] M Q := wpn_sound (cuts := [(2, [true, true, true, false, false]), (31, [true, true, true, false, false]), (63, [true, true, true, true, false]), (70, [true, true, true, true, true])]) ok245 18 31 _ _ _ h
-- ClayBootsModel.mixOf, from 63
set_option maxRecDepth 100000 in
theorem w245_63 {X : Cx} {d : Nat} {M : Mem} {Q : Option Vl → Mem → Prop} {x1 x2 x3 : Int32}
    (h : (x3 < 0 → V X (d + 1) 245 31 [some (vR 100 0), some (vI x1), some (vI (x2 + 1)), none, none] [] M Q) ∧ (¬ x3 < 0 → V X (d + 1) 245 70 [some (vR 100 0), some (vI x1), some (vI x2), some (vI x3), some (vI 1)] [] M Q)) :
    V X (d + 1) 245 63 [some (vR 100 0), some (vI x1), some (vI x2), some (vI x3), none] [] M Q := wpn_sound (cuts := [(2, [true, true, true, false, false]), (31, [true, true, true, false, false]), (63, [true, true, true, true, false]), (70, [true, true, true, true, true])]) ok245 5 63 _ _ _ h
-- ClayBootsModel.mixOf, from 70
set_option maxRecDepth 100000 in
theorem w245_70 {X : Cx} {d : Nat} {M : Mem} {Q : Option Vl → Mem → Prop} {x1 x2 x3 x4 : Int32}
    (h : (x3 < x4 → V X (d + 1) 245 63 [some (vR 100 0), some (vI x1), some (vI x2), some (vI (x3 + (-1))), none] [] M Q) ∧ (¬ x3 < x4 → inb (7 + x2) 2129 ∧ ((M.1 101 0 (ix (7 + x2))) < x4 → V X (d + 1) 245 63 [some (vR 100 0), some (vI x1), some (vI x2), some (vI (x3 + (-1))), none] [] M Q) ∧ (¬ (M.1 101 0 (ix (7 + x2))) < x4 → inb x3 31 ∧ inb (x3 - x4) 31 ∧ ¬ (Int64.ofNat 1000000007) = 0 ∧ inb x3 31 ∧ ∀ M1, M1 = stL M 114 0 (ix x3) (((M.2 114 0 (ix x3)) + (M.2 114 0 (ix (x3 - x4)))) % (Int64.ofNat 1000000007)) → V X (d + 1) 245 70 [some (vR 100 0), some (vI x1), some (vI x2), some (vI x3), some (vI (x4 + 1))] [] M1 Q))) :
    V X (d + 1) 245 70 [some (vR 100 0), some (vI x1), some (vI x2), some (vI x3), some (vI x4)] [] M Q := wpn_sound (cuts := [(2, [true, true, true, false, false]), (31, [true, true, true, false, false]), (63, [true, true, true, true, false]), (70, [true, true, true, true, true])]) ok245 31 70 _ _ _ h
theorem e245 {X : Cx} {d : Nat} {M M2 : Mem} {p0 : Int32} {r : Int64} (h : V X d 245 0 [some (vR 100 0), some (vI p0), none, none, none] [] M (fun r' M' => r' = (some (vJ r)) ∧ M' = M2)) : CC X d 245 [vR 100 0, vI p0] M (some (vJ r)) M2 := CC_of (by decide) trivial (Nat.le_of_ble_eq_true rfl) (by simp [c1]) h
-- ClayBootsModel.mix, from 0
set_option maxRecDepth 100000 in
theorem w246_0 {X : Cx} {d : Nat} {M : Mem} {Q : Option Vl → Mem → Prop} {p0 : Int32}
    (h : ∃ (r1 : Int32) (M1 : Mem), CC X d 151 [vI p0, vI (-1), vI 5] M (some (vI r1)) M1 ∧ (¬ r1 = 0 → (p0 = (-1) → V X (d + 1) 246 28 [some (vR 100 0), none, some (vJ (Int64.ofNat 1)), none, some (vI 0)] [] M1 Q) ∧ (¬ p0 = (-1) → ∃ (r2 : Int64) (M2 : Mem), CC X d 245 [vR 100 0, vI p0] M1 (some (vJ r2)) M2 ∧ Q (some (vI (Int64.toInt32 r2))) M2)) ∧ (r1 = 0 → Q (some (vI (-1))) M1)) :
    V X (d + 1) 246 0 [some (vR 100 0), some (vI p0), none, none, none] [] M Q := wpn_sound (cuts := [(28, [true, false, true, false, true])]) ok246 14 0 _ _ _ h
-- ClayBootsModel.mix, from 28
set_option maxRecDepth 100000 in
theorem w246_28 {X : Cx} {d : Nat} {M : Mem} {Q : Option Vl → Mem → Prop} {x4 : Int32} {x2 : Int64}
    (h : (6 ≤ x4 → Q (some (vI (Int64.toInt32 x2))) M) ∧ (¬ 6 ≤ x4 → ∃ (r1 : Int64) (M1 : Mem), CC X d 245 [vR 100 0, vI x4] M (some (vJ r1)) M1 ∧ ¬ (Int64.ofNat 1000000007) = 0 ∧ V X (d + 1) 246 28 [some (vR 100 0), none, some (vJ ((x2 * r1) % (Int64.ofNat 1000000007))), none, some (vI (x4 + 1))] [] M1 Q)) :
    V X (d + 1) 246 28 [some (vR 100 0), none, some (vJ x2), none, some (vI x4)] [] M Q := wpn_sound (cuts := [(28, [true, false, true, false, true])]) ok246 14 28 _ _ _ h
theorem e246 {X : Cx} {d : Nat} {M M2 : Mem} {p0 : Int32} {r : Int32} (h : V X d 246 0 [some (vR 100 0), some (vI p0), none, none, none] [] M (fun r' M' => r' = (some (vI r)) ∧ M' = M2)) : CC X d 246 [vR 100 0, vI p0] M (some (vI r)) M2 := CC_of (by decide) trivial (Nat.le_of_ble_eq_true rfl) (by simp [c1]) h
-- ClayBootsModel.garden, from 0
set_option maxRecDepth 100000 in
theorem w247_0 {X : Cx} {d : Nat} {M : Mem} {Q : Option Vl → Mem → Prop} {p0 p1 : Int32}
    (h : ∃ (r1 : Int32) (M1 : Mem), CC X d 151 [vI p0, vI 0, vI 7] M (some (vI r1)) M1 ∧ (r1 = 0 → isB 0 ∧ Q (some (vI 0)) M1) ∧ (¬ r1 = 0 → ∃ (r2 : Int32) (M2 : Mem), CC X d 151 [vI p1, vI 0, vI 7] M1 (some (vI r2)) M2 ∧ (¬ r2 = 0 → inb (549 + p0) 2129 ∧ ∀ M3, M3 = st M2 101 0 (ix (549 + p0)) p1 → isB 1 ∧ Q (some (vI 1)) M3) ∧ (r2 = 0 → isB 0 ∧ Q (some (vI 0)) M2))) :
    V X (d + 1) 247 0 [some (vR 100 0), some (vI p0), some (vI p1)] [] M Q := wpn_sound (cuts := []) ok247 20 0 _ _ _ h
theorem e247 {X : Cx} {d : Nat} {M M2 : Mem} {p0 p1 : Int32} {r : Int32} (h : V X d 247 0 [some (vR 100 0), some (vI p0), some (vI p1)] [] M (fun r' M' => r' = (some (vI r)) ∧ M' = M2)) : CC X d 247 [vR 100 0, vI p0, vI p1] M (some (vI r)) M2 := CC_of (by decide) trivial (Nat.le_of_ble_eq_true rfl) (by simp [c1]) h
-- ClayBootsModel.back, from 0
set_option maxRecDepth 100000 in
theorem w248_0 {X : Cx} {d : Nat} {M : Mem} {Q : Option Vl → Mem → Prop} {p0 : Int32}
    (h : V X (d + 1) 248 4 [some (vR 100 0), some (vI p0), some (vI 0), some (vI 0), none, none, none, none, none] [] M Q) :
    V X (d + 1) 248 0 [some (vR 100 0), some (vI p0), none, none, none, none, none, none, none] [] M Q := wpn_sound (cuts := [(4, [true, true, true, true, false, false, false, false, false]), (60, [true, true, false, true, true, true, true, false, false]), (74, [true, true, false, true, true, true, true, true, true])]) ok248 5 0 _ _ _ h
-- ClayBootsModel.back, from 4
set_option maxRecDepth 100000 in
theorem w248_4 {X : Cx} {d : Nat} {M : Mem} {Q : Option Vl → Mem → Prop} {x1 x2 x3 : Int32}
    (h : (8 ≤ x3 → ∃ (r1 : Int32) (M1 : Mem), CC X d 151 [vI x1, vI 0, vI 1] M (some (vI r1)) M1 ∧ (r1 = 0 → Q (some (vI (-1))) M1) ∧ (¬ r1 = 0 → (x2 = 255 → V X (d + 1) 248 60 [some (vR 100 0), some (vI x1), none, some (vI 0), some (vI 0), some (vI 0), some (vI 0), none, none] [] M1 Q) ∧ (¬ x2 = 255 → Q (some (vI (-1))) M1))) ∧ (¬ 8 ≤ x3 → inb (549 + x3) 2129 ∧ V X (d + 1) 248 4 [some (vR 100 0), some (vI x1), some (vI (x2 ||| (1 <<< ((M.1 101 0 (ix (549 + x3))) &&& 31)))), some (vI (x3 + 1)), none, none, none, none, none] [] M Q)) :
    V X (d + 1) 248 4 [some (vR 100 0), some (vI x1), some (vI x2), some (vI x3), none, none, none, none, none] [] M Q := wpn_sound (cuts := [(4, [true, true, true, true, false, false, false, false, false]), (60, [true, true, false, true, true, true, true, false, false]), (74, [true, true, false, true, true, true, true, true, true])]) ok248 20 4 _ _ _ h
-- ClayBootsModel.back, from 60
set_option maxRecDepth 100000 in
theorem w248_60 {X : Cx} {d : Nat} {M : Mem} {Q : Option Vl → Mem → Prop} {x1 x3 x4 x5 x6 : Int32}
    (h : (8 ≤ x6 → (¬ x1 = 0 → Q (some (vI x5)) M) ∧ (x1 = 0 → Q (some (vI x4)) M)) ∧ (¬ 8 ≤ x6 → V X (d + 1) 248 74 [some (vR 100 0), some (vI x1), none, some (vI x3), some (vI x4), some (vI x5), some (vI x6), some (vI 0), some (vI x6)] [] M Q)) :
    V X (d + 1) 248 60 [some (vR 100 0), some (vI x1), none, some (vI x3), some (vI x4), some (vI x5), some (vI x6), none, none] [] M Q := wpn_sound (cuts := [(4, [true, true, true, true, false, false, false, false, false]), (60, [true, true, false, true, true, true, true, false, false]), (74, [true, true, false, true, true, true, true, true, true])]) ok248 9 60 _ _ _ h
-- ClayBootsModel.back, from 74
set_option maxRecDepth 100000 in
theorem w248_74 {X : Cx} {d : Nat} {M : Mem} {Q : Option Vl → Mem → Prop} {x1 x3 x4 x5 x6 x7 x8 : Int32}
    (h : (¬ ((x3 >>> (x8 &&& 31)) &&& 1) = 0 → ∃ (r1 : Int32) (M1 : Mem), CC X d 153 [vI 0, vI (x7 - 1)] M (some (vI r1)) M1 ∧ (x7 ≤ 1 → V X (d + 1) 248 60 [some (vR 100 0), some (vI x1), none, some (vI x3), some (vI (x4 + r1)), some (vI (x5 + 0)), some (vI (x6 + 1)), none, none] [] M1 Q) ∧ (¬ x7 ≤ 1 → V X (d + 1) 248 60 [some (vR 100 0), some (vI x1), none, some (vI x3), some (vI (x4 + r1)), some (vI (x5 + 1)), some (vI (x6 + 1)), none, none] [] M1 Q)) ∧ (((x3 >>> (x8 &&& 31)) &&& 1) = 0 → inb (549 + x8) 2129 ∧ V X (d + 1) 248 74 [some (vR 100 0), some (vI x1), none, some (vI (x3 ||| (1 <<< (x8 &&& 31)))), some (vI x4), some (vI x5), some (vI x6), some (vI (x7 + 1)), some (vI (M.1 101 0 (ix (549 + x8))))] [] M Q)) :
    V X (d + 1) 248 74 [some (vR 100 0), some (vI x1), none, some (vI x3), some (vI x4), some (vI x5), some (vI x6), some (vI x7), some (vI x8)] [] M Q := wpn_sound (cuts := [(4, [true, true, true, true, false, false, false, false, false]), (60, [true, true, false, true, true, true, true, false, false]), (74, [true, true, false, true, true, true, true, true, true])]) ok248 25 74 _ _ _ h
theorem e248 {X : Cx} {d : Nat} {M M2 : Mem} {p0 : Int32} {r : Int32} (h : V X d 248 0 [some (vR 100 0), some (vI p0), none, none, none, none, none, none, none] [] M (fun r' M' => r' = (some (vI r)) ∧ M' = M2)) : CC X d 248 [vR 100 0, vI p0] M (some (vI r)) M2 := CC_of (by decide) trivial (Nat.le_of_ble_eq_true rfl) (by simp [c1]) h
