-- ClayBoots$Book.write, from 0
set_option maxRecDepth 100000 in
theorem w0_0 {X : Cx} {d : Nat} {M : Mem} {Q : Option Vl → Mem → Prop} {a : Nat} {p0 p1 p2 p3 : Int32}
    (h : ((M.1 30 a 0) < 150 → inb ((M.1 30 a 0) * 4) 600 ∧ ∀ M1, M1 = st M 31 a (ix ((M.1 30 a 0) * 4)) p0 → inb (((M.1 30 a 0) * 4) + 1) 600 ∧ ∀ M2, M2 = st M1 31 a (ix (((M.1 30 a 0) * 4) + 1)) p1 → inb (((M.1 30 a 0) * 4) + 2) 600 ∧ ∀ M3, M3 = st M2 31 a (ix (((M.1 30 a 0) * 4) + 2)) p2 → inb (((M.1 30 a 0) * 4) + 3) 600 ∧ ∀ M4, M4 = st M3 31 a (ix (((M.1 30 a 0) * 4) + 3)) p3 → ∀ M5, M5 = st M4 30 a 0 ((M4.1 30 a 0) + 1) → Q (none) M5) ∧ (¬ (M.1 30 a 0) < 150 → Q (none) M)) :
    V X (d + 1) 0 0 [some (vR 30 a), some (vI p0), some (vI p1), some (vI p2), some (vI p3), none] [] M Q := wpn_sound (cuts := []) ok0 43 0 _ _ _ h
theorem e0 {X : Cx} {d : Nat} {M M2 : Mem} {a : Nat} {p0 p1 p2 p3 : Int32} (h : V X d 0 0 [some (vR 30 a), some (vI p0), some (vI p1), some (vI p2), some (vI p3), none] [] M (fun r' M' => r' = none ∧ M' = M2)) : CC X d 0 [vR 30 a, vI p0, vI p1, vI p2, vI p3] M none M2 := CC_of (by decide) trivial (Nat.le_of_ble_eq_true rfl) (by simp [c1]) h
-- ClayBoots$Book.become, from 0
set_option maxRecDepth 100000 in
theorem w1_0 {X : Cx} {d : Nat} {M : Mem} {Q : Option Vl → Mem → Prop} {a b : Nat}
    (h : ∀ M1, M1 = st M 30 a 0 (M.1 30 b 0) → ¬ (0 : Int32) < 0 ∧ ¬ (0 : Int32) < 0 ∧ ¬ (Int32.ofNat 600) < 0 ∧ ix 0 + ix (Int32.ofNat 600) ≤ 600 ∧ ix 0 + ix (Int32.ofNat 600) ≤ 600 ∧ ∀ M2, M2 = cpy M1 31 b 31 a (ix 0) (ix 0) (ix (Int32.ofNat 600)) → Q (none) M2) :
    V X (d + 1) 1 0 [some (vR 30 a), some (vR 30 b)] [] M Q := wpn_sound (cuts := []) ok1 16 0 _ _ _ h
theorem e1 {X : Cx} {d : Nat} {M M2 : Mem} {a b : Nat} (h : V X d 1 0 [some (vR 30 a), some (vR 30 b)] [] M (fun r' M' => r' = none ∧ M' = M2)) : CC X d 1 [vR 30 a, vR 30 b] M none M2 := CC_of (by decide) trivial (Nat.le_of_ble_eq_true rfl) (by simp [c1]) h
-- ClayBoots$Law.become, from 0
set_option maxRecDepth 100000 in
theorem w2_0 {X : Cx} {d : Nat} {M : Mem} {Q : Option Vl → Mem → Prop} {a b : Nat}
    (h : ∀ M1, M1 = st M 40 a 0 (M.1 40 b 0) → ∀ M2, M2 = st M1 40 a 1 (M1.1 40 b 1) → ¬ (0 : Int32) < 0 ∧ ¬ (0 : Int32) < 0 ∧ ¬ (16 : Int32) < 0 ∧ ix 0 + ix 16 ≤ 16 ∧ ix 0 + ix 16 ≤ 16 ∧ ∀ M3, M3 = cpy M2 42 b 42 a (ix 0) (ix 0) (ix 16) → ¬ (0 : Int32) < 0 ∧ ¬ (0 : Int32) < 0 ∧ ¬ (16 : Int32) < 0 ∧ ix 0 + ix 16 ≤ 16 ∧ ix 0 + ix 16 ≤ 16 ∧ ∀ M4, M4 = cpy M3 43 b 43 a (ix 0) (ix 0) (ix 16) → ¬ (0 : Int32) < 0 ∧ ¬ (0 : Int32) < 0 ∧ ¬ (16 : Int32) < 0 ∧ ix 0 + ix 16 ≤ 16 ∧ ix 0 + ix 16 ≤ 16 ∧ ∀ M5, M5 = cpy M4 44 b 44 a (ix 0) (ix 0) (ix 16) → ¬ (0 : Int32) < 0 ∧ ¬ (0 : Int32) < 0 ∧ ¬ (16 : Int32) < 0 ∧ ix 0 + ix 16 ≤ 16 ∧ ix 0 + ix 16 ≤ 16 ∧ ∀ M6, M6 = cpy M5 45 b 45 a (ix 0) (ix 0) (ix 16) → ¬ (0 : Int32) < 0 ∧ ¬ (0 : Int32) < 0 ∧ ¬ (400 : Int32) < 0 ∧ ix 0 + ix 400 ≤ 400 ∧ ix 0 + ix 400 ≤ 400 ∧ ∀ M7, M7 = cpy M6 46 b 46 a (ix 0) (ix 0) (ix 400) → Q (none) M7) :
    V X (d + 1) 2 0 [some (vR 40 a), some (vR 40 b)] [] M Q := wpn_sound (cuts := []) ok2 50 0 _ _ _ h
theorem e2 {X : Cx} {d : Nat} {M M2 : Mem} {a b : Nat} (h : V X d 2 0 [some (vR 40 a), some (vR 40 b)] [] M (fun r' M' => r' = none ∧ M' = M2)) : CC X d 2 [vR 40 a, vR 40 b] M none M2 := CC_of (by decide) trivial (Nat.le_of_ble_eq_true rfl) (by simp [c1]) h
-- ClayBoots$Law.clear, from 0
set_option maxRecDepth 100000 in
theorem w3_0 {X : Cx} {d : Nat} {M : Mem} {Q : Option Vl → Mem → Prop} {a : Nat}
    (h : ∀ M1, M1 = st M 40 a 0 0 → ∀ M2, M2 = st M1 40 a 1 0 → Q (none) M2) :
    V X (d + 1) 3 0 [some (vR 40 a)] [] M Q := wpn_sound (cuts := []) ok3 8 0 _ _ _ h
theorem e3 {X : Cx} {d : Nat} {M M2 : Mem} {a : Nat} (h : V X d 3 0 [some (vR 40 a)] [] M (fun r' M' => r' = none ∧ M' = M2)) : CC X d 3 [vR 40 a] M none M2 := CC_of (by decide) trivial (Nat.le_of_ble_eq_true rfl) (by simp [c1]) h
-- ClayBoots$Law.emit, from 0
set_option maxRecDepth 100000 in
theorem w4_0 {X : Cx} {d : Nat} {M : Mem} {Q : Option Vl → Mem → Prop} {a : Nat} {p0 : Int32}
    (h : (400 ≤ (M.1 40 a 1) → Q (none) M) ∧ (¬ 400 ≤ (M.1 40 a 1) → inb (M.1 40 a 1) 400 ∧ ∀ M1, M1 = st M 46 a (ix (M.1 40 a 1)) p0 → ∀ M2, M2 = st M1 40 a 1 ((M1.1 40 a 1) + 1) → Q (none) M2)) :
    V X (d + 1) 4 0 [some (vR 40 a), some (vI p0)] [] M Q := wpn_sound (cuts := []) ok4 18 0 _ _ _ h
theorem e4 {X : Cx} {d : Nat} {M M2 : Mem} {a : Nat} {p0 : Int32} (h : V X d 4 0 [some (vR 40 a), some (vI p0)] [] M (fun r' M' => r' = none ∧ M' = M2)) : CC X d 4 [vR 40 a, vI p0] M none M2 := CC_of (by decide) trivial (Nat.le_of_ble_eq_true rfl) (by simp [c1]) h
-- ClayBoots$Law.answer, from 0
set_option maxRecDepth 100000 in
theorem w5_0 {X : Cx} {d : Nat} {M : Mem} {Q : Option Vl → Mem → Prop} {a b : Nat} {p0 : Int32}
    (h : V X (d + 1) 5 2 [some (vR 40 a), some (vI p0), some (vR 12 b), some (vI 0)] [] M Q) :
    V X (d + 1) 5 0 [some (vR 40 a), some (vI p0), some (vR 12 b), none] [] M Q := wpn_sound (cuts := [(2, [true, true, true, true])]) ok5 3 0 _ _ _ h
-- ClayBoots$Law.answer, from 2
set_option maxRecDepth 100000 in
theorem w5_2 {X : Cx} {d : Nat} {M : Mem} {Q : Option Vl → Mem → Prop} {a b : Nat} {x1 x3 : Int32}
    (h : ((M.1 40 a 0) ≤ x3 → (¬ x1 = 10010 → (¬ x1 = 10011 → Q (some (vI 0)) M) ∧ (x1 = 10011 → Q (some (vI 500)) M)) ∧ (x1 = 10010 → inb 0 10 ∧ inb 5 10 ∧ Q (some (vI ((M.1 12 b (ix 0)) + (M.1 12 b (ix 5))))) M)) ∧ (¬ (M.1 40 a 0) ≤ x3 → (16 ≤ x3 → (¬ x1 = 10010 → (¬ x1 = 10011 → Q (some (vI 0)) M) ∧ (x1 = 10011 → Q (some (vI 500)) M)) ∧ (x1 = 10010 → inb 0 10 ∧ inb 5 10 ∧ Q (some (vI ((M.1 12 b (ix 0)) + (M.1 12 b (ix 5))))) M)) ∧ (¬ 16 ≤ x3 → inb x3 16 ∧ (¬ (M.1 42 a (ix x3)) = x1 → V X (d + 1) 5 2 [some (vR 40 a), some (vI x1), some (vR 12 b), some (vI (x3 + 1))] [] M Q) ∧ ((M.1 42 a (ix x3)) = x1 → inb x3 16 ∧ inb x3 16 ∧ ((M.1 44 a (ix x3)) = (M.1 45 a (ix x3)) → inb x3 16 ∧ inb x3 16 ∧ ∃ (r1 : Int32) (M1 : Mem), CC X d 6 [vR 40 a, vI (M.1 43 a (ix x3)), vI (M.1 44 a (ix x3)), vR 12 b] M (some (vI r1)) M1 ∧ Q (some (vI r1)) M1) ∧ (¬ (M.1 44 a (ix x3)) = (M.1 45 a (ix x3)) → inb x3 16 ∧ inb x3 16 ∧ ∃ (r2 : Int32) (M2 : Mem), CC X d 6 [vR 40 a, vI (M.1 44 a (ix x3)), vI (M.1 45 a (ix x3)), vR 12 b] M (some (vI r2)) M2 ∧ (r2 = 0 → V X (d + 1) 5 2 [some (vR 40 a), some (vI x1), some (vR 12 b), some (vI (x3 + 1))] [] M2 Q) ∧ (¬ r2 = 0 → inb x3 16 ∧ inb x3 16 ∧ ∃ (r3 : Int32) (M3 : Mem), CC X d 6 [vR 40 a, vI (M2.1 43 a (ix x3)), vI (M2.1 44 a (ix x3)), vR 12 b] M2 (some (vI r3)) M3 ∧ Q (some (vI r3)) M3)))))) :
    V X (d + 1) 5 2 [some (vR 40 a), some (vI x1), some (vR 12 b), some (vI x3)] [] M Q := wpn_sound (cuts := [(2, [true, true, true, true])]) ok5 47 2 _ _ _ h
theorem e5 {X : Cx} {d : Nat} {M M2 : Mem} {a b : Nat} {p0 : Int32} {r : Int32} (h : V X d 5 0 [some (vR 40 a), some (vI p0), some (vR 12 b), none] [] M (fun r' M' => r' = (some (vI r)) ∧ M' = M2)) : CC X d 5 [vR 40 a, vI p0, vR 12 b] M (some (vI r)) M2 := CC_of (by decide) trivial (Nat.le_of_ble_eq_true rfl) (by simp [c1]) h
-- ClayBoots$Law.reckon, from 0
set_option maxRecDepth 100000 in
theorem w6_0 {X : Cx} {d : Nat} {M : Mem} {Q : Option Vl → Mem → Prop} {a b : Nat} {p0 p1 : Int32}
    (h : V X (d + 1) 6 6 [some (vR 40 a), none, some (vI p1), some (vR 12 b), some (vI 0), some (vI p0), none] [] M Q) :
    V X (d + 1) 6 0 [some (vR 40 a), some (vI p0), some (vI p1), some (vR 12 b), none, none, none] [] M Q := wpn_sound (cuts := [(6, [true, false, true, true, true, true, false])]) ok6 5 0 _ _ _ h
-- ClayBoots$Law.reckon, from 6
set_option maxRecDepth 100000 in
theorem w6_6 {X : Cx} {d : Nat} {M : Mem} {Q : Option Vl → Mem → Prop} {a b : Nat} {x2 x4 x5 : Int32}
    (h : (x5 < 0 → (x4 ≤ 0 → Q (some (vI 0)) M) ∧ (¬ x4 ≤ 0 → inb (x4 - 1) 32 ∧ Q (some (vI (M.1 47 a (ix (x4 - 1))))) M)) ∧ (¬ x5 < 0 → (x2 ≤ x5 → (x4 ≤ 0 → Q (some (vI 0)) M) ∧ (¬ x4 ≤ 0 → inb (x4 - 1) 32 ∧ Q (some (vI (M.1 47 a (ix (x4 - 1))))) M)) ∧ (¬ x2 ≤ x5 → (400 ≤ x5 → (x4 ≤ 0 → Q (some (vI 0)) M) ∧ (¬ x4 ≤ 0 → inb (x4 - 1) 32 ∧ Q (some (vI (M.1 47 a (ix (x4 - 1))))) M)) ∧ (¬ 400 ≤ x5 → inb x5 400 ∧ (¬ (M.1 46 a (ix x5)) = 10016 → ((M.1 46 a (ix x5)) < 0 → (x4 ≤ 1 → V X (d + 1) 6 6 [some (vR 40 a), none, some (vI x2), some (vR 12 b), some (vI x4), some (vI (x5 + 1)), none] [] M Q) ∧ (¬ x4 ≤ 1 → inb ((x4 + (-1)) - 1) 32 ∧ inb (x4 + (-1)) 32 ∧ ∃ (r1 : Int32) (M1 : Mem), CC X d 7 [vI (M.1 46 a (ix x5)), vI (M.1 47 a (ix ((x4 + (-1)) - 1))), vI (M.1 47 a (ix (x4 + (-1))))] M (some (vI r1)) M1 ∧ inb ((x4 + (-1)) - 1) 32 ∧ ∀ M2, M2 = st M1 47 a (ix ((x4 + (-1)) - 1)) r1 → V X (d + 1) 6 6 [some (vR 40 a), none, some (vI x2), some (vR 12 b), some (vI (x4 + (-1))), some (vI (x5 + 1)), none] [] M2 Q)) ∧ (¬ (M.1 46 a (ix x5)) < 0 → (10010 ≤ (M.1 46 a (ix x5)) → (x4 ≤ 1 → V X (d + 1) 6 6 [some (vR 40 a), none, some (vI x2), some (vR 12 b), some (vI x4), some (vI (x5 + 1)), none] [] M Q) ∧ (¬ x4 ≤ 1 → inb ((x4 + (-1)) - 1) 32 ∧ inb (x4 + (-1)) 32 ∧ ∃ (r2 : Int32) (M3 : Mem), CC X d 7 [vI (M.1 46 a (ix x5)), vI (M.1 47 a (ix ((x4 + (-1)) - 1))), vI (M.1 47 a (ix (x4 + (-1))))] M (some (vI r2)) M3 ∧ inb ((x4 + (-1)) - 1) 32 ∧ ∀ M4, M4 = st M3 47 a (ix ((x4 + (-1)) - 1)) r2 → V X (d + 1) 6 6 [some (vR 40 a), none, some (vI x2), some (vR 12 b), some (vI (x4 + (-1))), some (vI (x5 + 1)), none] [] M4 Q)) ∧ (¬ 10010 ≤ (M.1 46 a (ix x5)) → (32 ≤ x4 → V X (d + 1) 6 6 [some (vR 40 a), none, some (vI x2), some (vR 12 b), some (vI x4), some (vI (x5 + 1)), none] [] M Q) ∧ (¬ 32 ≤ x4 → (10000 ≤ (M.1 46 a (ix x5)) → inb ((M.1 46 a (ix x5)) - 10000) 10 ∧ inb x4 32 ∧ ∀ M5, M5 = st M 47 a (ix x4) (M.1 12 b (ix ((M.1 46 a (ix x5)) - 10000))) → V X (d + 1) 6 6 [some (vR 40 a), none, some (vI x2), some (vR 12 b), some (vI (x4 + 1)), some (vI (x5 + 1)), none] [] M5 Q) ∧ (¬ 10000 ≤ (M.1 46 a (ix x5)) → inb x4 32 ∧ ∀ M6, M6 = st M 47 a (ix x4) (M.1 46 a (ix x5)) → V X (d + 1) 6 6 [some (vR 40 a), none, some (vI x2), some (vR 12 b), some (vI (x4 + 1)), some (vI (x5 + 1)), none] [] M6 Q))))) ∧ ((M.1 46 a (ix x5)) = 10016 → (x4 ≤ 0 → V X (d + 1) 6 6 [some (vR 40 a), none, some (vI x2), some (vR 12 b), some (vI x4), some (vI (x5 + 1)), none] [] M Q) ∧ (¬ x4 ≤ 0 → inb (x4 - 1) 32 ∧ inb (x4 - 1) 32 ∧ ∀ M7, M7 = st M 47 a (ix (x4 - 1)) (1 - (M.1 47 a (ix (x4 - 1)))) → V X (d + 1) 6 6 [some (vR 40 a), none, some (vI x2), some (vR 12 b), some (vI x4), some (vI (x5 + 1)), none] [] M7 Q)))))) :
    V X (d + 1) 6 6 [some (vR 40 a), none, some (vI x2), some (vR 12 b), some (vI x4), some (vI x5), none] [] M Q := wpn_sound (cuts := [(6, [true, false, true, true, true, true, false])]) ok6 46 6 _ _ _ h
theorem e6 {X : Cx} {d : Nat} {M M2 : Mem} {a b : Nat} {p0 p1 : Int32} {r : Int32} (h : V X d 6 0 [some (vR 40 a), some (vI p0), some (vI p1), some (vR 12 b), none, none, none] [] M (fun r' M' => r' = (some (vI r)) ∧ M' = M2)) : CC X d 6 [vR 40 a, vI p0, vI p1, vR 12 b] M (some (vI r)) M2 := CC_of (by decide) trivial (Nat.le_of_ble_eq_true rfl) (by simp [c1]) h
-- ClayBoots$Law.joined, from 0
set_option maxRecDepth 100000 in
theorem w7_0 {X : Cx} {d : Nat} {M : Mem} {Q : Option Vl → Mem → Prop} {p0 p1 p2 : Int32}
    (h : (p0 = 10014 → Q (some (vI (p1 ||| p2))) M) ∧ (¬ p0 = 10014 → (p0 = 10015 → Q (some (vI (p1 &&& p2))) M) ∧ (¬ p0 = 10015 → (p0 = 20042 → Q (some (vI (p1 * p2))) M) ∧ (¬ p0 = 20042 → (p0 = 20043 → Q (some (vI (p1 + p2))) M) ∧ (¬ p0 = 20043 → (p0 = 20045 → Q (some (vI (p1 - p2))) M) ∧ (¬ p0 = 20045 → (p0 = 20047 → (¬ p2 = 0 → ¬ p2 = 0 ∧ Q (some (vI (p1 / p2))) M) ∧ (p2 = 0 → Q (some (vI 0)) M)) ∧ (¬ p0 = 20047 → (p0 = 20060 → (p2 ≤ p1 → Q (some (vI 0)) M) ∧ (¬ p2 ≤ p1 → Q (some (vI 1)) M)) ∧ (¬ p0 = 20060 → (p0 = 20061 → (¬ p1 = p2 → Q (some (vI 0)) M) ∧ (p1 = p2 → Q (some (vI 1)) M)) ∧ (¬ p0 = 20061 → (p0 = 20062 → (p1 ≤ p2 → Q (some (vI 0)) M) ∧ (¬ p1 ≤ p2 → Q (some (vI 1)) M)) ∧ (¬ p0 = 20062 → Q (some (vI 0)) M)))))))))) :
    V X (d + 1) 7 0 [some (vI p0), some (vI p1), some (vI p2)] [] M Q := wpn_sound (cuts := []) ok7 9 0 _ _ _ h
theorem e7 {X : Cx} {d : Nat} {M M2 : Mem} {p0 p1 p2 : Int32} {r : Int32} (h : V X d 7 0 [some (vI p0), some (vI p1), some (vI p2)] [] M (fun r' M' => r' = (some (vI r)) ∧ M' = M2)) : CC X d 7 [vI p0, vI p1, vI p2] M (some (vI r)) M2 := CC_of (by decide) trivial (Nat.le_of_ble_eq_true rfl) (by simp [c1]) h
-- ClayBoots$Past.keep, from 0
set_option maxRecDepth 100000 in
theorem w8_0 {X : Cx} {d : Nat} {M : Mem} {Q : Option Vl → Mem → Prop} {b : Nat}
    (h : ((M.1 8 0 1) < 0 → Q (none) M) ∧ (¬ (M.1 8 0 1) < 0 → (6 ≤ (M.1 8 0 1) → Q (none) M) ∧ (¬ 6 ≤ (M.1 8 0 1) → inb (M.1 8 0 1) 6 ∧ ∃ (M1 : Mem), CC X d 53 [vR 20 (2 + ix (M.1 8 0 1)), vR 20 b] M none M1 ∧ ¬ (6 : Int32) = 0 ∧ ∀ M2, M2 = st M1 8 0 1 (((M1.1 8 0 1) + 1) % 6) → ∀ M3, M3 = st M2 8 0 0 (if ((M2.1 8 0 0) + 1) < 6 then ((M2.1 8 0 0) + 1) else 6) → Q (none) M3))) :
    V X (d + 1) 8 0 [some (vR 8 0), some (vR 20 b), none] [] M Q := wpn_sound (cuts := []) ok8 37 0 _ _ _ h
theorem e8 {X : Cx} {d : Nat} {M M2 : Mem} {b : Nat} (h : V X d 8 0 [some (vR 8 0), some (vR 20 b), none] [] M (fun r' M' => r' = none ∧ M' = M2)) : CC X d 8 [vR 8 0, vR 20 b] M none M2 := CC_of (by decide) trivial (Nat.le_of_ble_eq_true rfl) (by simp [c1]) h
-- ClayBoots$Past.bringBack, from 0
set_option maxRecDepth 100000 in
theorem w9_0 {X : Cx} {d : Nat} {M : Mem} {Q : Option Vl → Mem → Prop} {b : Nat}
    (h : ¬ (6 : Int32) = 0 ∧ (((((M.1 8 0 1) + 6) - 1) % 6) < 0 → ((M.1 8 0 0) = 0 → isB 0 ∧ Q (some (vI 0)) M) ∧ (¬ (M.1 8 0 0) = 0 → isB 0 ∧ Q (some (vI 0)) M)) ∧ (¬ ((((M.1 8 0 1) + 6) - 1) % 6) < 0 → (6 ≤ ((((M.1 8 0 1) + 6) - 1) % 6) → ((M.1 8 0 0) = 0 → isB 0 ∧ Q (some (vI 0)) M) ∧ (¬ (M.1 8 0 0) = 0 → isB 0 ∧ Q (some (vI 0)) M)) ∧ (¬ 6 ≤ ((((M.1 8 0 1) + 6) - 1) % 6) → inb ((((M.1 8 0 1) + 6) - 1) % 6) 6 ∧ ((M.1 8 0 0) = 0 → isB 0 ∧ Q (some (vI 0)) M) ∧ (¬ (M.1 8 0 0) = 0 → ∃ (M1 : Mem), CC X d 53 [vR 20 b, vR 20 (2 + ix ((((M.1 8 0 1) + 6) - 1) % 6))] M none M1 ∧ ∀ M2, M2 = st M1 8 0 1 ((((M.1 8 0 1) + 6) - 1) % 6) → ∀ M3, M3 = st M2 8 0 0 ((M2.1 8 0 0) - 1) → isB 1 ∧ Q (some (vI 1)) M3)))) :
    V X (d + 1) 9 0 [some (vR 8 0), some (vR 20 b), none, none] [] M Q := wpn_sound (cuts := []) ok9 40 0 _ _ _ h
theorem e9 {X : Cx} {d : Nat} {M M2 : Mem} {b : Nat} {r : Int32} (h : V X d 9 0 [some (vR 8 0), some (vR 20 b), none, none] [] M (fun r' M' => r' = (some (vI r)) ∧ M' = M2)) : CC X d 9 [vR 8 0, vR 20 b] M (some (vI r)) M2 := CC_of (by decide) trivial (Nat.le_of_ble_eq_true rfl) (by simp [c1]) h
-- ClayBoots$Past.forget, from 0
set_option maxRecDepth 100000 in
theorem w10_0 {X : Cx} {d : Nat} {M : Mem} {Q : Option Vl → Mem → Prop}
    (h : ∀ M1, M1 = st M 8 0 0 0 → Q (none) M1) :
    V X (d + 1) 10 0 [some (vR 8 0)] [] M Q := wpn_sound (cuts := []) ok10 5 0 _ _ _ h
theorem e10 {X : Cx} {d : Nat} {M M2 : Mem} (h : V X d 10 0 [some (vR 8 0)] [] M (fun r' M' => r' = none ∧ M' = M2)) : CC X d 10 [vR 8 0] M none M2 := CC_of (by decide) trivial (Nat.le_of_ble_eq_true rfl) (by simp [c1]) h
-- ClayBoots$Plans.become, from 0
set_option maxRecDepth 100000 in
theorem w11_0 {X : Cx} {d : Nat} {M : Mem} {Q : Option Vl → Mem → Prop} {a b : Nat}
    (h : ∃ (M1 : Mem), CC X d 12 [vR 50 a, vR 50 b] M none M1 ∧ ∃ (M2 : Mem), CC X d 13 [vR 50 a, vR 50 b] M1 none M2 ∧ ∃ (M3 : Mem), CC X d 14 [vR 50 a, vR 50 b] M2 none M3 ∧ Q (none) M3) :
    V X (d + 1) 11 0 [some (vR 50 a), some (vR 50 b)] [] M Q := wpn_sound (cuts := []) ok11 11 0 _ _ _ h
theorem e11 {X : Cx} {d : Nat} {M M2 : Mem} {a b : Nat} (h : V X d 11 0 [some (vR 50 a), some (vR 50 b)] [] M (fun r' M' => r' = none ∧ M' = M2)) : CC X d 11 [vR 50 a, vR 50 b] M none M2 := CC_of (by decide) trivial (Nat.le_of_ble_eq_true rfl) (by simp [c1]) h
-- ClayBoots$Plans.becomeCalls, from 0
set_option maxRecDepth 100000 in
theorem w12_0 {X : Cx} {d : Nat} {M : Mem} {Q : Option Vl → Mem → Prop} {a b : Nat}
    (h : ∀ M1, M1 = st M 50 a 0 (M.1 50 b 0) → ¬ (0 : Int32) < 0 ∧ ¬ (0 : Int32) < 0 ∧ ¬ (16 : Int32) < 0 ∧ ix 0 + ix 16 ≤ 16 ∧ ix 0 + ix 16 ≤ 16 ∧ ∀ M2, M2 = cpy M1 53 b 53 a (ix 0) (ix 0) (ix 16) → ¬ (0 : Int32) < 0 ∧ ¬ (0 : Int32) < 0 ∧ ¬ (16 : Int32) < 0 ∧ ix 0 + ix 16 ≤ 16 ∧ ix 0 + ix 16 ≤ 16 ∧ ∀ M3, M3 = cpy M2 54 b 54 a (ix 0) (ix 0) (ix 16) → ¬ (0 : Int32) < 0 ∧ ¬ (0 : Int32) < 0 ∧ ¬ (16 : Int32) < 0 ∧ ix 0 + ix 16 ≤ 16 ∧ ix 0 + ix 16 ≤ 16 ∧ ∀ M4, M4 = cpy M3 55 b 55 a (ix 0) (ix 0) (ix 16) → ¬ (0 : Int32) < 0 ∧ ¬ (0 : Int32) < 0 ∧ ¬ (16 : Int32) < 0 ∧ ix 0 + ix 16 ≤ 16 ∧ ix 0 + ix 16 ≤ 16 ∧ ∀ M5, M5 = cpy M4 56 b 56 a (ix 0) (ix 0) (ix 16) → Q (none) M5) :
    V X (d + 1) 12 0 [some (vR 50 a), some (vR 50 b)] [] M Q := wpn_sound (cuts := []) ok12 38 0 _ _ _ h
theorem e12 {X : Cx} {d : Nat} {M M2 : Mem} {a b : Nat} (h : V X d 12 0 [some (vR 50 a), some (vR 50 b)] [] M (fun r' M' => r' = none ∧ M' = M2)) : CC X d 12 [vR 50 a, vR 50 b] M none M2 := CC_of (by decide) trivial (Nat.le_of_ble_eq_true rfl) (by simp [c1]) h
-- ClayBoots$Plans.becomeSky, from 0
set_option maxRecDepth 100000 in
theorem w13_0 {X : Cx} {d : Nat} {M : Mem} {Q : Option Vl → Mem → Prop} {a b : Nat}
    (h : ∀ M1, M1 = st M 50 a 1 (M.1 50 b 1) → ¬ (0 : Int32) < 0 ∧ ¬ (0 : Int32) < 0 ∧ ¬ (16 : Int32) < 0 ∧ ix 0 + ix 16 ≤ 16 ∧ ix 0 + ix 16 ≤ 16 ∧ ∀ M2, M2 = cpy M1 57 b 57 a (ix 0) (ix 0) (ix 16) → ¬ (0 : Int32) < 0 ∧ ¬ (0 : Int32) < 0 ∧ ¬ (16 : Int32) < 0 ∧ ix 0 + ix 16 ≤ 16 ∧ ix 0 + ix 16 ≤ 16 ∧ ∀ M3, M3 = cpy M2 58 b 58 a (ix 0) (ix 0) (ix 16) → Q (none) M3) :
    V X (d + 1) 13 0 [some (vR 50 a), some (vR 50 b)] [] M Q := wpn_sound (cuts := []) ok13 22 0 _ _ _ h
theorem e13 {X : Cx} {d : Nat} {M M2 : Mem} {a b : Nat} (h : V X d 13 0 [some (vR 50 a), some (vR 50 b)] [] M (fun r' M' => r' = none ∧ M' = M2)) : CC X d 13 [vR 50 a, vR 50 b] M none M2 := CC_of (by decide) trivial (Nat.le_of_ble_eq_true rfl) (by simp [c1]) h
-- ClayBoots$Plans.becomeWays, from 0
set_option maxRecDepth 100000 in
theorem w14_0 {X : Cx} {d : Nat} {M : Mem} {Q : Option Vl → Mem → Prop} {a b : Nat}
    (h : ∀ M1, M1 = st M 50 a 2 (M.1 50 b 2) → ¬ (0 : Int32) < 0 ∧ ¬ (0 : Int32) < 0 ∧ ¬ (64 : Int32) < 0 ∧ ix 0 + ix 64 ≤ 64 ∧ ix 0 + ix 64 ≤ 64 ∧ ∀ M2, M2 = cpy M1 59 b 59 a (ix 0) (ix 0) (ix 64) → Q (none) M2) :
    V X (d + 1) 14 0 [some (vR 50 a), some (vR 50 b)] [] M Q := wpn_sound (cuts := []) ok14 14 0 _ _ _ h
theorem e14 {X : Cx} {d : Nat} {M M2 : Mem} {a b : Nat} (h : V X d 14 0 [some (vR 50 a), some (vR 50 b)] [] M (fun r' M' => r' = none ∧ M' = M2)) : CC X d 14 [vR 50 a, vR 50 b] M none M2 := CC_of (by decide) trivial (Nat.le_of_ble_eq_true rfl) (by simp [c1]) h
-- ClayBoots$Plans.clear, from 0
set_option maxRecDepth 100000 in
theorem w15_0 {X : Cx} {d : Nat} {M : Mem} {Q : Option Vl → Mem → Prop} {a : Nat}
    (h : ∀ M1, M1 = st M 50 a 0 0 → ∀ M2, M2 = st M1 50 a 1 0 → ∀ M3, M3 = st M2 50 a 2 0 → V X (d + 1) 15 17 [some (vR 50 a), some (vI 0)] [] M3 Q) :
    V X (d + 1) 15 0 [some (vR 50 a), none] [] M Q := wpn_sound (cuts := [(17, [true, true])]) ok15 12 0 _ _ _ h
-- ClayBoots$Plans.clear, from 17
set_option maxRecDepth 100000 in
theorem w15_17 {X : Cx} {d : Nat} {M : Mem} {Q : Option Vl → Mem → Prop} {a : Nat} {x1 : Int32}
    (h : (64 ≤ x1 → Q (none) M) ∧ (¬ 64 ≤ x1 → inb x1 64 ∧ ∀ M1, M1 = st M 59 a (ix x1) 0 → V X (d + 1) 15 17 [some (vR 50 a), some (vI (x1 + 1))] [] M1 Q)) :
    V X (d + 1) 15 17 [some (vR 50 a), some (vI x1)] [] M Q := wpn_sound (cuts := [(17, [true, true])]) ok15 11 17 _ _ _ h
theorem e15 {X : Cx} {d : Nat} {M M2 : Mem} {a : Nat} (h : V X d 15 0 [some (vR 50 a), none] [] M (fun r' M' => r' = none ∧ M' = M2)) : CC X d 15 [vR 50 a] M none M2 := CC_of (by decide) trivial (Nat.le_of_ble_eq_true rfl) (by simp [c1]) h
-- ClayBoots$Plans.skyOf, from 0
set_option maxRecDepth 100000 in
theorem w16_0 {X : Cx} {d : Nat} {M : Mem} {Q : Option Vl → Mem → Prop} {a b : Nat}
    (h : V X (d + 1) 16 2 [some (vR 50 a), some (vR 20 b), some (vI 0)] [] M Q) :
    V X (d + 1) 16 0 [some (vR 50 a), some (vR 20 b), none] [] M Q := wpn_sound (cuts := [(2, [true, true, true])]) ok16 3 0 _ _ _ h
-- ClayBoots$Plans.skyOf, from 2
set_option maxRecDepth 100000 in
theorem w16_2 {X : Cx} {d : Nat} {M : Mem} {Q : Option Vl → Mem → Prop} {a b : Nat} {x2 : Int32}
    (h : ((M.1 50 a 1) ≤ x2 → Q (none) M) ∧ (¬ (M.1 50 a 1) ≤ x2 → (16 ≤ x2 → Q (none) M) ∧ (¬ 16 ≤ x2 → inb x2 16 ∧ (¬ (M.1 57 a (ix x2)) = (M.1 20 b 4) → V X (d + 1) 16 2 [some (vR 50 a), some (vR 20 b), some (vI (x2 + 1))] [] M Q) ∧ ((M.1 57 a (ix x2)) = (M.1 20 b 4) → inb x2 16 ∧ (9 < (M.1 58 a (ix x2)) → inb x2 16 ∧ (¬ (M.1 58 a (ix x2)) = 10 → ∀ M1, M1 = st M 20 b 2 0 → V X (d + 1) 16 2 [some (vR 50 a), some (vR 20 b), some (vI (x2 + 1))] [] M1 Q) ∧ ((M.1 58 a (ix x2)) = 10 → ∀ M2, M2 = st M 20 b 2 1 → V X (d + 1) 16 2 [some (vR 50 a), some (vR 20 b), some (vI (x2 + 1))] [] M2 Q)) ∧ (¬ 9 < (M.1 58 a (ix x2)) → inb x2 16 ∧ ∀ M3, M3 = st M 20 b 1 (M.1 58 a (ix x2)) → V X (d + 1) 16 2 [some (vR 50 a), some (vR 20 b), some (vI (x2 + 1))] [] M3 Q))))) :
    V X (d + 1) 16 2 [some (vR 50 a), some (vR 20 b), some (vI x2)] [] M Q := wpn_sound (cuts := [(2, [true, true, true])]) ok16 33 2 _ _ _ h
theorem e16 {X : Cx} {d : Nat} {M M2 : Mem} {a b : Nat} (h : V X d 16 0 [some (vR 50 a), some (vR 20 b), none] [] M (fun r' M' => r' = none ∧ M' = M2)) : CC X d 16 [vR 50 a, vR 20 b] M none M2 := CC_of (by decide) trivial (Nat.le_of_ble_eq_true rfl) (by simp [c1]) h
-- ClayBoots$Plans.addWay, from 0
set_option maxRecDepth 100000 in
theorem w17_0 {X : Cx} {d : Nat} {M : Mem} {Q : Option Vl → Mem → Prop} {a : Nat} {p0 p1 p2 : Int32}
    (h : ∃ (r1 : Int32) (M1 : Mem), CC X d 146 [vI p0, vI 0, vI 7] M (some (vI r1)) M1 ∧ (r1 = 0 → Q (none) M1) ∧ (¬ r1 = 0 → ∃ (r2 : Int32) (M2 : Mem), CC X d 146 [vI p1, vI 0, vI 7] M1 (some (vI r2)) M2 ∧ (¬ r2 = 0 → inb ((p0 * 8) + p1) 64 ∧ ((M2.1 59 a (ix ((p0 * 8) + p1))) = 0 → inb ((p0 * 8) + p1) 64 ∧ ∀ M3, M3 = st M2 59 a (ix ((p0 * 8) + p1)) p2 → inb ((p1 * 8) + p0) 64 ∧ ∀ M4, M4 = st M3 59 a (ix ((p1 * 8) + p0)) p2 → Q (none) M4) ∧ (¬ (M2.1 59 a (ix ((p0 * 8) + p1))) = 0 → ((M2.1 59 a (ix ((p0 * 8) + p1))) ≤ p2 → Q (none) M2) ∧ (¬ (M2.1 59 a (ix ((p0 * 8) + p1))) ≤ p2 → inb ((p0 * 8) + p1) 64 ∧ ∀ M5, M5 = st M2 59 a (ix ((p0 * 8) + p1)) p2 → inb ((p1 * 8) + p0) 64 ∧ ∀ M6, M6 = st M5 59 a (ix ((p1 * 8) + p0)) p2 → Q (none) M6))) ∧ (r2 = 0 → Q (none) M2))) :
    V X (d + 1) 17 0 [some (vR 50 a), some (vI p0), some (vI p1), some (vI p2), none] [] M Q := wpn_sound (cuts := []) ok17 44 0 _ _ _ h
theorem e17 {X : Cx} {d : Nat} {M M2 : Mem} {a : Nat} {p0 p1 p2 : Int32} (h : V X d 17 0 [some (vR 50 a), some (vI p0), some (vI p1), some (vI p2), none] [] M (fun r' M' => r' = none ∧ M' = M2)) : CC X d 17 [vR 50 a, vI p0, vI p1, vI p2] M none M2 := CC_of (by decide) trivial (Nat.le_of_ble_eq_true rfl) (by simp [c1]) h
-- ClayBoots$Plans.wayBetween, from 0
set_option maxRecDepth 100000 in
theorem w18_0 {X : Cx} {d : Nat} {M : Mem} {Q : Option Vl → Mem → Prop} {a : Nat} {p0 p1 : Int32}
    (h : ∃ (r1 : Int32) (M1 : Mem), CC X d 146 [vI p0, vI 0, vI 7] M (some (vI r1)) M1 ∧ (r1 = 0 → Q (some (vI (-1))) M1) ∧ (¬ r1 = 0 → ∃ (r2 : Int32) (M2 : Mem), CC X d 146 [vI p1, vI 0, vI 7] M1 (some (vI r2)) M2 ∧ (¬ r2 = 0 → inb ((p0 * 8) + p1) 64 ∧ (¬ (M2.1 59 a (ix ((p0 * 8) + p1))) = 0 → Q (some (vI (M2.1 59 a (ix ((p0 * 8) + p1))))) M2) ∧ ((M2.1 59 a (ix ((p0 * 8) + p1))) = 0 → Q (some (vI (-1))) M2)) ∧ (r2 = 0 → Q (some (vI (-1))) M2))) :
    V X (d + 1) 18 0 [some (vR 50 a), some (vI p0), some (vI p1), none] [] M Q := wpn_sound (cuts := []) ok18 25 0 _ _ _ h
theorem e18 {X : Cx} {d : Nat} {M M2 : Mem} {a : Nat} {p0 p1 : Int32} {r : Int32} (h : V X d 18 0 [some (vR 50 a), some (vI p0), some (vI p1), none] [] M (fun r' M' => r' = (some (vI r)) ∧ M' = M2)) : CC X d 18 [vR 50 a, vI p0, vI p1] M (some (vI r)) M2 := CC_of (by decide) trivial (Nat.le_of_ble_eq_true rfl) (by simp [c1]) h
-- ClayBoots$Plans.leastSum, from 0
set_option maxRecDepth 100000 in
theorem w19_0 {X : Cx} {d : Nat} {M : Mem} {Q : Option Vl → Mem → Prop} {a : Nat} {p0 : Int32}
    (h : (¬ p0 = 0 → ∃ (r1 : Int32) (M1 : Mem), CC X d 21 [vR 50 a, vI 0, vI p0, vI 0] M (some (vI r1)) M1 ∧ Q (some (vI r1)) M1) ∧ (p0 = 0 → Q (some (vI 0)) M)) :
    V X (d + 1) 19 0 [some (vR 50 a), some (vI p0)] [] M Q := wpn_sound (cuts := []) ok19 9 0 _ _ _ h
theorem e19 {X : Cx} {d : Nat} {M M2 : Mem} {a : Nat} {p0 : Int32} {r : Int32} (h : V X d 19 0 [some (vR 50 a), some (vI p0)] [] M (fun r' M' => r' = (some (vI r)) ∧ M' = M2)) : CC X d 19 [vR 50 a, vI p0] M (some (vI r)) M2 := CC_of (by decide) trivial (Nat.le_of_ble_eq_true rfl) (by simp [c1]) h
-- ClayBoots$Plans.apart, from 0
set_option maxRecDepth 100000 in
theorem w20_0 {X : Cx} {d : Nat} {M : Mem} {Q : Option Vl → Mem → Prop} {a : Nat} {p0 p1 p2 : Int32}
    (h : ∃ (r1 : Int32) (M1 : Mem), CC X d 21 [vR 50 a, vI p0, vI p2, vI 1] M (some (vI r1)) M1 ∧ ∃ (r2 : Int32) (M2 : Mem), CC X d 146 [vI p1, vI 0, vI 7] M1 (some (vI r2)) M2 ∧ (r2 = 0 → Q (some (vI (-1))) M2) ∧ (¬ r2 = 0 → inb p1 8 ∧ ((M2.1 61 a (ix p1)) = 0 → Q (some (vI (-1))) M2) ∧ (¬ (M2.1 61 a (ix p1)) = 0 → inb p1 8 ∧ Q (some (vI (M2.1 60 a (ix p1)))) M2))) :
    V X (d + 1) 20 0 [some (vR 50 a), some (vI p0), some (vI p1), some (vI p2)] [] M Q := wpn_sound (cuts := []) ok20 23 0 _ _ _ h
theorem e20 {X : Cx} {d : Nat} {M M2 : Mem} {a : Nat} {p0 p1 p2 : Int32} {r : Int32} (h : V X d 20 0 [some (vR 50 a), some (vI p0), some (vI p1), some (vI p2)] [] M (fun r' M' => r' = (some (vI r)) ∧ M' = M2)) : CC X d 20 [vR 50 a, vI p0, vI p1, vI p2] M (some (vI r)) M2 := CC_of (by decide) trivial (Nat.le_of_ble_eq_true rfl) (by simp [c1]) h
-- ClayBoots$Plans.spread, from 0
set_option maxRecDepth 100000 in
theorem w21_0 {X : Cx} {d : Nat} {M : Mem} {Q : Option Vl → Mem → Prop} {a : Nat} {p0 p1 p2 : Int32}
    (h : V X (d + 1) 21 3 [some (vR 50 a), some (vI p0), some (vI p1), some (vI p2), some (vI 0), none, none, none, none] [] M Q) :
    V X (d + 1) 21 0 [some (vR 50 a), some (vI p0), some (vI p1), some (vI p2), none, none, none, none, none] [] M Q := wpn_sound (cuts := [(3, [true, true, true, true, true, false, false, false, false]), (49, [true, false, true, true, true, true, false, false, false]), (93, [true, false, true, true, true, true, true, true, false])]) ok21 3 0 _ _ _ h
-- ClayBoots$Plans.spread, from 3
set_option maxRecDepth 100000 in
theorem w21_3 {X : Cx} {d : Nat} {M : Mem} {Q : Option Vl → Mem → Prop} {a : Nat} {x1 x2 x3 x4 : Int32}
    (h : (8 ≤ x4 → V X (d + 1) 21 49 [some (vR 50 a), none, some (vI x2), some (vI x3), some (vI 0), some (vI 0), none, none, none] [] M Q) ∧ (¬ 8 ≤ x4 → (¬ x4 = x1 → inb x4 8 ∧ ∀ M1, M1 = st M 60 a (ix x4) 1000000 → inb x4 8 ∧ isB 0 ∧ ∀ M2, M2 = st M1 61 a (ix x4) 0 → V X (d + 1) 21 3 [some (vR 50 a), some (vI x1), some (vI x2), some (vI x3), some (vI (x4 + 1)), none, none, none, none] [] M2 Q) ∧ (x4 = x1 → inb x4 8 ∧ ∀ M3, M3 = st M 60 a (ix x4) 0 → inb x4 8 ∧ isB 0 ∧ ∀ M4, M4 = st M3 61 a (ix x4) 0 → V X (d + 1) 21 3 [some (vR 50 a), some (vI x1), some (vI x2), some (vI x3), some (vI (x4 + 1)), none, none, none, none] [] M4 Q))) :
    V X (d + 1) 21 3 [some (vR 50 a), some (vI x1), some (vI x2), some (vI x3), some (vI x4), none, none, none, none] [] M Q := wpn_sound (cuts := [(3, [true, true, true, true, true, false, false, false, false]), (49, [true, false, true, true, true, true, false, false, false]), (93, [true, false, true, true, true, true, true, true, false])]) ok21 20 3 _ _ _ h
-- ClayBoots$Plans.spread, from 49
set_option maxRecDepth 100000 in
theorem w21_49 {X : Cx} {d : Nat} {M : Mem} {Q : Option Vl → Mem → Prop} {a : Nat} {x2 x3 x4 x5 : Int32}
    (h : (x2 ≤ x5 → Q (some (vI x4)) M) ∧ (¬ x2 ≤ x5 → ∃ (r1 : Int32) (M1 : Mem), CC X d 22 [vR 50 a, vI x2] M (some (vI r1)) M1 ∧ (¬ r1 = (-1) → inb r1 8 ∧ isB 1 ∧ ∀ M2, M2 = st M1 61 a (ix r1) 1 → inb r1 8 ∧ V X (d + 1) 21 93 [some (vR 50 a), none, some (vI x2), some (vI x3), some (vI (x4 + (M2.1 60 a (ix r1)))), some (vI x5), some (vI r1), some (vI 0), none] [] M2 Q) ∧ (r1 = (-1) → Q (some (vI (-1))) M1))) :
    V X (d + 1) 21 49 [some (vR 50 a), none, some (vI x2), some (vI x3), some (vI x4), some (vI x5), none, none, none] [] M Q := wpn_sound (cuts := [(3, [true, true, true, true, true, false, false, false, false]), (49, [true, false, true, true, true, true, false, false, false]), (93, [true, false, true, true, true, true, true, true, false])]) ok21 25 49 _ _ _ h
-- ClayBoots$Plans.spread, from 93
set_option maxRecDepth 100000 in
theorem w21_93 {X : Cx} {d : Nat} {M : Mem} {Q : Option Vl → Mem → Prop} {a : Nat} {x2 x3 x4 x5 x6 x7 : Int32}
    (h : (x2 ≤ x7 → V X (d + 1) 21 49 [some (vR 50 a), none, some (vI x2), some (vI x3), some (vI x4), some (vI (x5 + 1)), none, none, none] [] M Q) ∧ (¬ x2 ≤ x7 → (8 ≤ x7 → V X (d + 1) 21 49 [some (vR 50 a), none, some (vI x2), some (vI x3), some (vI x4), some (vI (x5 + 1)), none, none, none] [] M Q) ∧ (¬ 8 ≤ x7 → inb ((x6 * 8) + x7) 64 ∧ ((M.1 59 a (ix ((x6 * 8) + x7))) ≤ 0 → V X (d + 1) 21 93 [some (vR 50 a), none, some (vI x2), some (vI x3), some (vI x4), some (vI x5), some (vI x6), some (vI (x7 + 1)), none] [] M Q) ∧ (¬ (M.1 59 a (ix ((x6 * 8) + x7))) ≤ 0 → inb x7 8 ∧ (¬ (M.1 61 a (ix x7)) = 0 → V X (d + 1) 21 93 [some (vR 50 a), none, some (vI x2), some (vI x3), some (vI x4), some (vI x5), some (vI x6), some (vI (x7 + 1)), none] [] M Q) ∧ ((M.1 61 a (ix x7)) = 0 → inb x7 8 ∧ (x3 = 0 → inb x7 8 ∧ ∀ M1, M1 = st M 60 a (ix x7) (if (M.1 59 a (ix ((x6 * 8) + x7))) < (M.1 60 a (ix x7)) then (M.1 59 a (ix ((x6 * 8) + x7))) else (M.1 60 a (ix x7))) → V X (d + 1) 21 93 [some (vR 50 a), none, some (vI x2), some (vI x3), some (vI x4), some (vI x5), some (vI x6), some (vI (x7 + 1)), none] [] M1 Q) ∧ (¬ x3 = 0 → inb x6 8 ∧ inb x7 8 ∧ ∀ M2, M2 = st M 60 a (ix x7) (if ((M.1 60 a (ix x6)) + (M.1 59 a (ix ((x6 * 8) + x7)))) < (M.1 60 a (ix x7)) then ((M.1 60 a (ix x6)) + (M.1 59 a (ix ((x6 * 8) + x7)))) else (M.1 60 a (ix x7))) → V X (d + 1) 21 93 [some (vR 50 a), none, some (vI x2), some (vI x3), some (vI x4), some (vI x5), some (vI x6), some (vI (x7 + 1)), none] [] M2 Q)))))) :
    V X (d + 1) 21 93 [some (vR 50 a), none, some (vI x2), some (vI x3), some (vI x4), some (vI x5), some (vI x6), some (vI x7), none] [] M Q := wpn_sound (cuts := [(3, [true, true, true, true, true, false, false, false, false]), (49, [true, false, true, true, true, true, false, false, false]), (93, [true, false, true, true, true, true, true, true, false])]) ok21 43 93 _ _ _ h
theorem e21 {X : Cx} {d : Nat} {M M2 : Mem} {a : Nat} {p0 p1 p2 : Int32} {r : Int32} (h : V X d 21 0 [some (vR 50 a), some (vI p0), some (vI p1), some (vI p2), none, none, none, none, none] [] M (fun r' M' => r' = (some (vI r)) ∧ M' = M2)) : CC X d 21 [vR 50 a, vI p0, vI p1, vI p2] M (some (vI r)) M2 := CC_of (by decide) trivial (Nat.le_of_ble_eq_true rfl) (by simp [c1]) h
-- ClayBoots$Plans.nearest, from 0
set_option maxRecDepth 100000 in
theorem w22_0 {X : Cx} {d : Nat} {M : Mem} {Q : Option Vl → Mem → Prop} {a : Nat} {p0 : Int32}
    (h : V X (d + 1) 22 8 [some (vR 50 a), some (vI p0), some (vI (-1)), some (vI 1000000), some (vI 0)] [] M Q) :
    V X (d + 1) 22 0 [some (vR 50 a), some (vI p0), none, none, none] [] M Q := wpn_sound (cuts := [(8, [true, true, true, true, true])]) ok22 7 0 _ _ _ h
-- ClayBoots$Plans.nearest, from 8
set_option maxRecDepth 100000 in
theorem w22_8 {X : Cx} {d : Nat} {M : Mem} {Q : Option Vl → Mem → Prop} {a : Nat} {x1 x2 x3 x4 : Int32}
    (h : (x1 ≤ x4 → Q (some (vI x2)) M) ∧ (¬ x1 ≤ x4 → (8 ≤ x4 → Q (some (vI x2)) M) ∧ (¬ 8 ≤ x4 → inb x4 8 ∧ (¬ (M.1 61 a (ix x4)) = 0 → V X (d + 1) 22 8 [some (vR 50 a), some (vI x1), some (vI x2), some (vI x3), some (vI (x4 + 1))] [] M Q) ∧ ((M.1 61 a (ix x4)) = 0 → inb x4 8 ∧ (x3 ≤ (M.1 60 a (ix x4)) → V X (d + 1) 22 8 [some (vR 50 a), some (vI x1), some (vI x2), some (vI x3), some (vI (x4 + 1))] [] M Q) ∧ (¬ x3 ≤ (M.1 60 a (ix x4)) → inb x4 8 ∧ V X (d + 1) 22 8 [some (vR 50 a), some (vI x1), some (vI x4), some (vI (M.1 60 a (ix x4))), some (vI (x4 + 1))] [] M Q))))) :
    V X (d + 1) 22 8 [some (vR 50 a), some (vI x1), some (vI x2), some (vI x3), some (vI x4)] [] M Q := wpn_sound (cuts := [(8, [true, true, true, true, true])]) ok22 27 8 _ _ _ h
theorem e22 {X : Cx} {d : Nat} {M M2 : Mem} {a : Nat} {p0 : Int32} {r : Int32} (h : V X d 22 0 [some (vR 50 a), some (vI p0), none, none, none] [] M (fun r' M' => r' = (some (vI r)) ∧ M' = M2)) : CC X d 22 [vR 50 a, vI p0] M (some (vI r)) M2 := CC_of (by decide) trivial (Nat.le_of_ble_eq_true rfl) (by simp [c1]) h
-- ClayBoots$Reader.take, from 0
set_option maxRecDepth 100000 in
theorem w23_0 {X : Cx} {d : Nat} {M : Mem} {Q : Option Vl → Mem → Prop} {p0 : Int32}
    (h : V X (d + 1) 23 3 [some (vR 3 0), some (vI p0), some (vI 24)] [] M Q) :
    V X (d + 1) 23 0 [some (vR 3 0), some (vI p0), none] [] M Q := wpn_sound (cuts := [(3, [true, true, true])]) ok23 3 0 _ _ _ h
-- ClayBoots$Reader.take, from 3
set_option maxRecDepth 100000 in
theorem w23_3 {X : Cx} {d : Nat} {M : Mem} {Q : Option Vl → Mem → Prop} {x1 x2 : Int32}
    (h : (x2 < 0 → Q (none) M) ∧ (¬ x2 < 0 → (400 ≤ (M.1 3 0 7) → Q (none) M) ∧ (¬ 400 ≤ (M.1 3 0 7) → inb (M.1 3 0 7) 400 ∧ ∀ M1, M1 = st M 4 0 (ix (M.1 3 0 7)) (((x1.toUInt32 >>> (Int32.toUInt32 x2 &&& Int32.toUInt32 31)).toInt32) &&& 255) → ∀ M2, M2 = st M1 3 0 7 ((M1.1 3 0 7) + 1) → V X (d + 1) 23 3 [some (vR 3 0), some (vI x1), some (vI (x2 + (-8)))] [] M2 Q))) :
    V X (d + 1) 23 3 [some (vR 3 0), some (vI x1), some (vI x2)] [] M Q := wpn_sound (cuts := [(3, [true, true, true])]) ok23 25 3 _ _ _ h
theorem e23 {X : Cx} {d : Nat} {M M2 : Mem} {p0 : Int32} (h : V X d 23 0 [some (vR 3 0), some (vI p0), none] [] M (fun r' M' => r' = none ∧ M' = M2)) : CC X d 23 [vR 3 0, vI p0] M none M2 := CC_of (by decide) trivial (Nat.le_of_ble_eq_true rfl) (by simp [c1]) h
-- ClayBoots$Reader.read, from 0
set_option maxRecDepth 100000 in
theorem w24_0 {X : Cx} {d : Nat} {M : Mem} {Q : Option Vl → Mem → Prop} {p0 : Int32}
    (h : ∀ M1, M1 = st M 3 0 13 0 → ∀ M2, M2 = st M1 3 0 14 (-1) → ∃ (M3 : Mem), CC X d 25 [vR 3 0] M2 none M3 ∧ ∀ M4, M4 = st M3 3 0 7 0 → (p0 < 0 → Q (some (vI (-1))) M4) ∧ (¬ p0 < 0 → (p0 ≤ 3 → ∃ (M5 : Mem), CC X d 3 [vR 40 1] M4 none M5 ∧ ∃ (M6 : Mem), CC X d 15 [vR 50 1] M5 none M6 ∧ V X (d + 1) 24 46 [some (vR 3 0), some (vI p0), some (vI 0)] [] M6 Q) ∧ (¬ p0 ≤ 3 → Q (some (vI (-1))) M4))) :
    V X (d + 1) 24 0 [some (vR 3 0), some (vI p0), none] [] M Q := wpn_sound (cuts := [(46, [true, true, true])]) ok24 25 0 _ _ _ h
-- ClayBoots$Reader.read, from 46
set_option maxRecDepth 100000 in
theorem w24_46 {X : Cx} {d : Nat} {M : Mem} {Q : Option Vl → Mem → Prop} {x1 x2 : Int32}
    (h : (16 < x2 → (¬ (M.1 3 0 13) = 0 → Q (some (vI (-1))) M) ∧ ((M.1 3 0 13) = 0 → Q (some (vI x2)) M)) ∧ (¬ 16 < x2 → (¬ (M.1 3 0 13) = 0 → (¬ (M.1 3 0 13) = 0 → Q (some (vI (-1))) M) ∧ ((M.1 3 0 13) = 0 → Q (some (vI x2)) M)) ∧ ((M.1 3 0 13) = 0 → ∃ (r1 : Int32) (M1 : Mem), CC X d 34 [vR 3 0, vI 30001] M (some (vI r1)) M1 ∧ (¬ r1 = 0 → (¬ (M1.1 3 0 13) = 0 → Q (some (vI (-1))) M1) ∧ ((M1.1 3 0 13) = 0 → Q (some (vI x2)) M1)) ∧ (r1 = 0 → (¬ x1 = 0 → (¬ x1 = 1 → (¬ x1 = 2 → ∃ (M2 : Mem), CC X d 52 [vR 3 0, vI x2] M1 none M2 ∧ V X (d + 1) 24 46 [some (vR 3 0), some (vI x1), some (vI (x2 + 1))] [] M2 Q) ∧ (x1 = 2 → ∃ (M3 : Mem), CC X d 51 [vR 3 0, vI x2] M1 none M3 ∧ V X (d + 1) 24 46 [some (vR 3 0), some (vI x1), some (vI (x2 + 1))] [] M3 Q)) ∧ (x1 = 1 → ∃ (M4 : Mem), CC X d 49 [vR 3 0, vI x2] M1 none M4 ∧ V X (d + 1) 24 46 [some (vR 3 0), some (vI x1), some (vI (x2 + 1))] [] M4 Q)) ∧ (x1 = 0 → ∃ (M5 : Mem), CC X d 41 [vR 3 0, vI x2] M1 none M5 ∧ V X (d + 1) 24 46 [some (vR 3 0), some (vI x1), some (vI (x2 + 1))] [] M5 Q))))) :
    V X (d + 1) 24 46 [some (vR 3 0), some (vI x1), some (vI x2)] [] M Q := wpn_sound (cuts := [(46, [true, true, true])]) ok24 25 46 _ _ _ h
theorem e24 {X : Cx} {d : Nat} {M M2 : Mem} {p0 : Int32} {r : Int32} (h : V X d 24 0 [some (vR 3 0), some (vI p0), none] [] M (fun r' M' => r' = (some (vI r)) ∧ M' = M2)) : CC X d 24 [vR 3 0, vI p0] M (some (vI r)) M2 := CC_of (by decide) trivial (Nat.le_of_ble_eq_true rfl) (by simp [c1]) h
-- ClayBoots$Reader.findTokens, from 0
set_option maxRecDepth 100000 in
theorem w25_0 {X : Cx} {d : Nat} {M : Mem} {Q : Option Vl → Mem → Prop}
    (h : ∀ M1, M1 = st M 3 0 8 0 → V X (d + 1) 25 9 [some (vR 3 0), some (vI 0), some (vI 0)] [] M1 Q) :
    V X (d + 1) 25 0 [some (vR 3 0), none, none] [] M Q := wpn_sound (cuts := [(9, [true, true, true])]) ok25 8 0 _ _ _ h
-- ClayBoots$Reader.findTokens, from 9
set_option maxRecDepth 100000 in
theorem w25_9 {X : Cx} {d : Nat} {M : Mem} {Q : Option Vl → Mem → Prop} {x1 x2 : Int32}
    (h : ((M.1 3 0 7) ≤ x2 → ∃ (M1 : Mem), CC X d 26 [vR 3 0, vI 30001, vI (M.1 3 0 7)] M none M1 ∧ ∀ M2, M2 = st M1 3 0 9 0 → inb 0 401 ∧ ∀ M3, M3 = st M2 3 0 10 (M2.1 5 0 (ix 0)) → Q (none) M3) ∧ (¬ (M.1 3 0 7) ≤ x2 → (400 ≤ x2 → ∃ (M4 : Mem), CC X d 26 [vR 3 0, vI 30001, vI (M.1 3 0 7)] M none M4 ∧ ∀ M5, M5 = st M4 3 0 9 0 → inb 0 401 ∧ ∀ M6, M6 = st M5 3 0 10 (M5.1 5 0 (ix 0)) → Q (none) M6) ∧ (¬ 400 ≤ x2 → (x2 < x1 → V X (d + 1) 25 9 [some (vR 3 0), some (vI x1), some (vI (x2 + 1))] [] M Q) ∧ (¬ x2 < x1 → inb x2 400 ∧ ∃ (r1 : Int32) (M7 : Mem), CC X d 27 [vI (M.1 4 0 (ix x2))] M (some (vI r1)) M7 ∧ (r1 = 0 → inb x2 400 ∧ ∃ (r2 : Int32) (M8 : Mem), CC X d 28 [vI (M7.1 4 0 (ix x2))] M7 (some (vI r2)) M8 ∧ (r2 = 0 → inb x2 400 ∧ ((M8.1 4 0 (ix x2)) = 32 → V X (d + 1) 25 9 [some (vR 3 0), some (vI (x2 + 1)), some (vI (x2 + 1))] [] M8 Q) ∧ (¬ (M8.1 4 0 (ix x2)) = 32 → inb x2 400 ∧ ((M8.1 4 0 (ix x2)) = 10 → V X (d + 1) 25 9 [some (vR 3 0), some (vI (x2 + 1)), some (vI (x2 + 1))] [] M8 Q) ∧ (¬ (M8.1 4 0 (ix x2)) = 10 → inb x2 400 ∧ ∃ (M9 : Mem), CC X d 26 [vR 3 0, vI (20000 + (M8.1 4 0 (ix x2))), vI x2] M8 none M9 ∧ V X (d + 1) 25 9 [some (vR 3 0), some (vI (x2 + 1)), some (vI (x2 + 1))] [] M9 Q))) ∧ (¬ r2 = 0 → ∃ (r3 : Int32) (M10 : Mem), CC X d 30 [vR 3 0, vI x2] M8 (some (vI r3)) M10 ∧ (4 < (r3 - x2) → ∃ (M11 : Mem), CC X d 26 [vR 3 0, vI 30000, vI x2] M10 none M11 ∧ V X (d + 1) 25 9 [some (vR 3 0), some (vI r3), some (vI (x2 + 1))] [] M11 Q) ∧ (¬ 4 < (r3 - x2) → ∃ (r4 : Int32) (M12 : Mem), CC X d 31 [vR 3 0, vI x2, vI r3] M10 (some (vI r4)) M12 ∧ ∃ (M13 : Mem), CC X d 26 [vR 3 0, vI r4, vI x2] M12 none M13 ∧ V X (d + 1) 25 9 [some (vR 3 0), some (vI r3), some (vI (x2 + 1))] [] M13 Q))) ∧ (¬ r1 = 0 → ∃ (r5 : Int32) (M14 : Mem), CC X d 29 [vR 3 0, vI x2] M7 (some (vI r5)) M14 ∧ ∃ (r6 : Int32) (M15 : Mem), CC X d 32 [vR 3 0, vI x2, vI r5] M14 (some (vI r6)) M15 ∧ ∃ (M16 : Mem), CC X d 26 [vR 3 0, vI r6, vI x2] M15 none M16 ∧ V X (d + 1) 25 9 [some (vR 3 0), some (vI r5), some (vI (x2 + 1))] [] M16 Q))))) :
    V X (d + 1) 25 9 [some (vR 3 0), some (vI x1), some (vI x2)] [] M Q := wpn_sound (cuts := [(9, [true, true, true])]) ok25 50 9 _ _ _ h
theorem e25 {X : Cx} {d : Nat} {M M2 : Mem} (h : V X d 25 0 [some (vR 3 0), none, none] [] M (fun r' M' => r' = none ∧ M' = M2)) : CC X d 25 [vR 3 0] M none M2 := CC_of (by decide) trivial (Nat.le_of_ble_eq_true rfl) (by simp [c1]) h
-- ClayBoots$Reader.addToken, from 0
set_option maxRecDepth 100000 in
theorem w26_0 {X : Cx} {d : Nat} {M : Mem} {Q : Option Vl → Mem → Prop} {p0 p1 : Int32}
    (h : (400 < (M.1 3 0 8) → Q (none) M) ∧ (¬ 400 < (M.1 3 0 8) → inb (M.1 3 0 8) 401 ∧ ∀ M1, M1 = st M 5 0 (ix (M.1 3 0 8)) p0 → inb (M1.1 3 0 8) 401 ∧ ∀ M2, M2 = st M1 6 0 (ix (M1.1 3 0 8)) p1 → ∀ M3, M3 = st M2 3 0 8 ((M2.1 3 0 8) + 1) → Q (none) M3)) :
    V X (d + 1) 26 0 [some (vR 3 0), some (vI p0), some (vI p1)] [] M Q := wpn_sound (cuts := []) ok26 24 0 _ _ _ h
theorem e26 {X : Cx} {d : Nat} {M M2 : Mem} {p0 p1 : Int32} (h : V X d 26 0 [some (vR 3 0), some (vI p0), some (vI p1)] [] M (fun r' M' => r' = none ∧ M' = M2)) : CC X d 26 [vR 3 0, vI p0, vI p1] M none M2 := CC_of (by decide) trivial (Nat.le_of_ble_eq_true rfl) (by simp [c1]) h
-- ClayBoots$Reader.isLetter, from 0
set_option maxRecDepth 100000 in
theorem w27_0 {X : Cx} {d : Nat} {M : Mem} {Q : Option Vl → Mem → Prop} {p0 : Int32}
    (h : (p0 < 97 → (p0 < 65 → isB 0 ∧ Q (some (vI 0)) M) ∧ (¬ p0 < 65 → (90 < p0 → isB 0 ∧ Q (some (vI 0)) M) ∧ (¬ 90 < p0 → isB 1 ∧ Q (some (vI 1)) M))) ∧ (¬ p0 < 97 → (p0 ≤ 122 → isB 1 ∧ Q (some (vI 1)) M) ∧ (¬ p0 ≤ 122 → (p0 < 65 → isB 0 ∧ Q (some (vI 0)) M) ∧ (¬ p0 < 65 → (90 < p0 → isB 0 ∧ Q (some (vI 0)) M) ∧ (¬ 90 < p0 → isB 1 ∧ Q (some (vI 1)) M))))) :
    V X (d + 1) 27 0 [some (vI p0)] [] M Q := wpn_sound (cuts := []) ok27 16 0 _ _ _ h
theorem e27 {X : Cx} {d : Nat} {M M2 : Mem} {p0 : Int32} {r : Int32} (h : V X d 27 0 [some (vI p0)] [] M (fun r' M' => r' = (some (vI r)) ∧ M' = M2)) : CC X d 27 [vI p0] M (some (vI r)) M2 := CC_of (by decide) trivial (Nat.le_of_ble_eq_true rfl) (by simp [c1]) h
-- ClayBoots$Reader.isDigit, from 0
set_option maxRecDepth 100000 in
theorem w28_0 {X : Cx} {d : Nat} {M : Mem} {Q : Option Vl → Mem → Prop} {p0 : Int32}
    (h : (p0 < 48 → isB 0 ∧ Q (some (vI 0)) M) ∧ (¬ p0 < 48 → (57 < p0 → isB 0 ∧ Q (some (vI 0)) M) ∧ (¬ 57 < p0 → isB 1 ∧ Q (some (vI 1)) M))) :
    V X (d + 1) 28 0 [some (vI p0)] [] M Q := wpn_sound (cuts := []) ok28 10 0 _ _ _ h
theorem e28 {X : Cx} {d : Nat} {M M2 : Mem} {p0 : Int32} {r : Int32} (h : V X d 28 0 [some (vI p0)] [] M (fun r' M' => r' = (some (vI r)) ∧ M' = M2)) : CC X d 28 [vI p0] M (some (vI r)) M2 := CC_of (by decide) trivial (Nat.le_of_ble_eq_true rfl) (by simp [c1]) h
-- ClayBoots$Reader.endOfLetters, from 0
set_option maxRecDepth 100000 in
theorem w29_0 {X : Cx} {d : Nat} {M : Mem} {Q : Option Vl → Mem → Prop} {p0 : Int32}
    (h : V X (d + 1) 29 2 [some (vR 3 0), none, some (vI p0)] [] M Q) :
    V X (d + 1) 29 0 [some (vR 3 0), some (vI p0), none] [] M Q := wpn_sound (cuts := [(2, [true, false, true])]) ok29 3 0 _ _ _ h
-- ClayBoots$Reader.endOfLetters, from 2
set_option maxRecDepth 100000 in
theorem w29_2 {X : Cx} {d : Nat} {M : Mem} {Q : Option Vl → Mem → Prop} {x2 : Int32}
    (h : ((M.1 3 0 7) ≤ x2 → Q (some (vI x2)) M) ∧ (¬ (M.1 3 0 7) ≤ x2 → (400 ≤ x2 → Q (some (vI x2)) M) ∧ (¬ 400 ≤ x2 → inb x2 400 ∧ ∃ (r1 : Int32) (M1 : Mem), CC X d 27 [vI (M.1 4 0 (ix x2))] M (some (vI r1)) M1 ∧ (r1 = 0 → Q (some (vI x2)) M1) ∧ (¬ r1 = 0 → V X (d + 1) 29 2 [some (vR 3 0), none, some (vI (x2 + 1))] [] M1 Q)))) :
    V X (d + 1) 29 2 [some (vR 3 0), none, some (vI x2)] [] M Q := wpn_sound (cuts := [(2, [true, false, true])]) ok29 16 2 _ _ _ h
theorem e29 {X : Cx} {d : Nat} {M M2 : Mem} {p0 : Int32} {r : Int32} (h : V X d 29 0 [some (vR 3 0), some (vI p0), none] [] M (fun r' M' => r' = (some (vI r)) ∧ M' = M2)) : CC X d 29 [vR 3 0, vI p0] M (some (vI r)) M2 := CC_of (by decide) trivial (Nat.le_of_ble_eq_true rfl) (by simp [c1]) h
-- ClayBoots$Reader.endOfDigits, from 0
set_option maxRecDepth 100000 in
theorem w30_0 {X : Cx} {d : Nat} {M : Mem} {Q : Option Vl → Mem → Prop} {p0 : Int32}
    (h : V X (d + 1) 30 2 [some (vR 3 0), none, some (vI p0)] [] M Q) :
    V X (d + 1) 30 0 [some (vR 3 0), some (vI p0), none] [] M Q := wpn_sound (cuts := [(2, [true, false, true])]) ok30 3 0 _ _ _ h
-- ClayBoots$Reader.endOfDigits, from 2
set_option maxRecDepth 100000 in
theorem w30_2 {X : Cx} {d : Nat} {M : Mem} {Q : Option Vl → Mem → Prop} {x2 : Int32}
    (h : ((M.1 3 0 7) ≤ x2 → Q (some (vI x2)) M) ∧ (¬ (M.1 3 0 7) ≤ x2 → (400 ≤ x2 → Q (some (vI x2)) M) ∧ (¬ 400 ≤ x2 → inb x2 400 ∧ ∃ (r1 : Int32) (M1 : Mem), CC X d 28 [vI (M.1 4 0 (ix x2))] M (some (vI r1)) M1 ∧ (r1 = 0 → Q (some (vI x2)) M1) ∧ (¬ r1 = 0 → V X (d + 1) 30 2 [some (vR 3 0), none, some (vI (x2 + 1))] [] M1 Q)))) :
    V X (d + 1) 30 2 [some (vR 3 0), none, some (vI x2)] [] M Q := wpn_sound (cuts := [(2, [true, false, true])]) ok30 16 2 _ _ _ h
theorem e30 {X : Cx} {d : Nat} {M M2 : Mem} {p0 : Int32} {r : Int32} (h : V X d 30 0 [some (vR 3 0), some (vI p0), none] [] M (fun r' M' => r' = (some (vI r)) ∧ M' = M2)) : CC X d 30 [vR 3 0, vI p0] M (some (vI r)) M2 := CC_of (by decide) trivial (Nat.le_of_ble_eq_true rfl) (by simp [c1]) h
-- ClayBoots$Reader.numberFrom, from 0
set_option maxRecDepth 100000 in
theorem w31_0 {X : Cx} {d : Nat} {M : Mem} {Q : Option Vl → Mem → Prop} {p0 p1 : Int32}
    (h : V X (d + 1) 31 5 [some (vR 3 0), none, some (vI p1), some (vI 0), some (vI p0)] [] M Q) :
    V X (d + 1) 31 0 [some (vR 3 0), some (vI p0), some (vI p1), none, none] [] M Q := wpn_sound (cuts := [(5, [true, false, true, true, true])]) ok31 5 0 _ _ _ h
-- ClayBoots$Reader.numberFrom, from 5
set_option maxRecDepth 100000 in
theorem w31_5 {X : Cx} {d : Nat} {M : Mem} {Q : Option Vl → Mem → Prop} {x2 x3 x4 : Int32}
    (h : (x2 ≤ x4 → Q (some (vI x3)) M) ∧ (¬ x2 ≤ x4 → (400 ≤ x4 → Q (some (vI x3)) M) ∧ (¬ 400 ≤ x4 → inb x4 400 ∧ V X (d + 1) 31 5 [some (vR 3 0), none, some (vI x2), some (vI (((x3 * 10) + (M.1 4 0 (ix x4))) - 48)), some (vI (x4 + 1))] [] M Q))) :
    V X (d + 1) 31 5 [some (vR 3 0), none, some (vI x2), some (vI x3), some (vI x4)] [] M Q := wpn_sound (cuts := [(5, [true, false, true, true, true])]) ok31 20 5 _ _ _ h
theorem e31 {X : Cx} {d : Nat} {M M2 : Mem} {p0 p1 : Int32} {r : Int32} (h : V X d 31 0 [some (vR 3 0), some (vI p0), some (vI p1), none, none] [] M (fun r' M' => r' = (some (vI r)) ∧ M' = M2)) : CC X d 31 [vR 3 0, vI p0, vI p1] M (some (vI r)) M2 := CC_of (by decide) trivial (Nat.le_of_ble_eq_true rfl) (by simp [c1]) h
-- ClayBoots$Reader.wordFrom, from 0
set_option maxRecDepth 100000 in
theorem w32_0 {X : Cx} {d : Nat} {M : Mem} {Q : Option Vl → Mem → Prop} {p0 p1 : Int32}
    (h : V X (d + 1) 32 8 [some (vR 3 0), some (vI p0), some (vI p1), some (vI 0), some (vI 0), some (vI 0)] [] M Q) :
    V X (d + 1) 32 0 [some (vR 3 0), some (vI p0), some (vI p1), none, none, none] [] M Q := wpn_sound (cuts := [(8, [true, true, true, true, true, true])]) ok32 7 0 _ _ _ h
-- ClayBoots$Reader.wordFrom, from 8
set_option maxRecDepth 100000 in
theorem w32_8 {X : Cx} {d : Nat} {M : Mem} {Q : Option Vl → Mem → Prop} {x1 x2 x3 x4 x5 : Int32}
    (h : ∃ (r1 : Int32) (M1 : Mem), CC X d 276 [vR 1 0] M (some (vI r1)) M1 ∧ (r1 < x5 → Q (some (vI 30000)) M1) ∧ (¬ r1 < x5 → ∃ (r2 : Int32) (M2 : Mem), CC X d 276 [vR 1 0] M1 (some (vI r2)) M2 ∧ (x5 = r2 → (¬ (x5 - x4) = (x2 - x1) → V X (d + 1) 32 8 [some (vR 3 0), some (vI x1), some (vI x2), some (vI (x3 + 1)), some (vI (x5 + 1)), some (vI (x5 + 1))] [] M2 Q) ∧ ((x5 - x4) = (x2 - x1) → ∃ (r3 : Int32) (M3 : Mem), CC X d 33 [vR 3 0, vI x4, vI x1, vI x2] M2 (some (vI r3)) M3 ∧ (r3 = 0 → V X (d + 1) 32 8 [some (vR 3 0), some (vI x1), some (vI x2), some (vI (x3 + 1)), some (vI (x5 + 1)), some (vI (x5 + 1))] [] M3 Q) ∧ (¬ r3 = 0 → Q (some (vI (10000 + x3))) M3))) ∧ (¬ x5 = r2 → ∃ (r4 : Int32) (M4 : Mem), CC X d 275 [vR 1 0, vI x5] M2 (some (vI r4)) M4 ∧ (¬ r4 = 32 → V X (d + 1) 32 8 [some (vR 3 0), some (vI x1), some (vI x2), some (vI x3), some (vI x4), some (vI (x5 + 1))] [] M4 Q) ∧ (r4 = 32 → (¬ (x5 - x4) = (x2 - x1) → V X (d + 1) 32 8 [some (vR 3 0), some (vI x1), some (vI x2), some (vI (x3 + 1)), some (vI (x5 + 1)), some (vI (x5 + 1))] [] M4 Q) ∧ ((x5 - x4) = (x2 - x1) → ∃ (r5 : Int32) (M5 : Mem), CC X d 33 [vR 3 0, vI x4, vI x1, vI x2] M4 (some (vI r5)) M5 ∧ (r5 = 0 → V X (d + 1) 32 8 [some (vR 3 0), some (vI x1), some (vI x2), some (vI (x3 + 1)), some (vI (x5 + 1)), some (vI (x5 + 1))] [] M5 Q) ∧ (¬ r5 = 0 → Q (some (vI (10000 + x3))) M5)))))) :
    V X (d + 1) 32 8 [some (vR 3 0), some (vI x1), some (vI x2), some (vI x3), some (vI x4), some (vI x5)] [] M Q := wpn_sound (cuts := [(8, [true, true, true, true, true, true])]) ok32 34 8 _ _ _ h
theorem e32 {X : Cx} {d : Nat} {M M2 : Mem} {p0 p1 : Int32} {r : Int32} (h : V X d 32 0 [some (vR 3 0), some (vI p0), some (vI p1), none, none, none] [] M (fun r' M' => r' = (some (vI r)) ∧ M' = M2)) : CC X d 32 [vR 3 0, vI p0, vI p1] M (some (vI r)) M2 := CC_of (by decide) trivial (Nat.le_of_ble_eq_true rfl) (by simp [c1]) h
-- ClayBoots$Reader.standsAt, from 0
set_option maxRecDepth 100000 in
theorem w33_0 {X : Cx} {d : Nat} {M : Mem} {Q : Option Vl → Mem → Prop} {p0 p1 p2 : Int32}
    (h : V X (d + 1) 33 3 [some (vR 3 0), some (vI p0), some (vI p1), some (vI p2), some (vI p1), none] [] M Q) :
    V X (d + 1) 33 0 [some (vR 3 0), some (vI p0), some (vI p1), some (vI p2), none, none] [] M Q := wpn_sound (cuts := [(3, [true, true, true, true, true, false])]) ok33 3 0 _ _ _ h
-- ClayBoots$Reader.standsAt, from 3
set_option maxRecDepth 100000 in
theorem w33_3 {X : Cx} {d : Nat} {M : Mem} {Q : Option Vl → Mem → Prop} {x1 x2 x3 x4 : Int32}
    (h : (x3 ≤ x4 → isB 1 ∧ Q (some (vI 1)) M) ∧ (¬ x3 ≤ x4 → (400 ≤ x4 → isB 1 ∧ Q (some (vI 1)) M) ∧ (¬ 400 ≤ x4 → ∃ (r1 : Int32) (M1 : Mem), CC X d 276 [vR 1 0] M (some (vI r1)) M1 ∧ (r1 ≤ ((x1 + x4) - x2) → isB 0 ∧ Q (some (vI 0)) M1) ∧ (¬ r1 ≤ ((x1 + x4) - x2) → ∃ (r2 : Int32) (M2 : Mem), CC X d 275 [vR 1 0, vI ((x1 + x4) - x2)] M1 (some (vI r2)) M2 ∧ inb x4 400 ∧ (r2 = (M2.1 4 0 (ix x4)) → V X (d + 1) 33 3 [some (vR 3 0), some (vI x1), some (vI x2), some (vI x3), some (vI (x4 + 1)), none] [] M2 Q) ∧ (¬ r2 = (M2.1 4 0 (ix x4)) → isB 0 ∧ Q (some (vI 0)) M2))))) :
    V X (d + 1) 33 3 [some (vR 3 0), some (vI x1), some (vI x2), some (vI x3), some (vI x4), none] [] M Q := wpn_sound (cuts := [(3, [true, true, true, true, true, false])]) ok33 27 3 _ _ _ h
theorem e33 {X : Cx} {d : Nat} {M M2 : Mem} {p0 p1 p2 : Int32} {r : Int32} (h : V X d 33 0 [some (vR 3 0), some (vI p0), some (vI p1), some (vI p2), none, none] [] M (fun r' M' => r' = (some (vI r)) ∧ M' = M2)) : CC X d 33 [vR 3 0, vI p0, vI p1, vI p2] M (some (vI r)) M2 := CC_of (by decide) trivial (Nat.le_of_ble_eq_true rfl) (by simp [c1]) h
-- ClayBoots$Reader.is, from 0
set_option maxRecDepth 100000 in
theorem w34_0 {X : Cx} {d : Nat} {M : Mem} {Q : Option Vl → Mem → Prop} {p0 : Int32}
    (h : (¬ (M.1 3 0 13) = 0 → isB 0 ∧ Q (some (vI 0)) M) ∧ ((M.1 3 0 13) = 0 → (¬ (M.1 3 0 10) = p0 → isB 0 ∧ Q (some (vI 0)) M) ∧ ((M.1 3 0 10) = p0 → isB 1 ∧ Q (some (vI 1)) M))) :
    V X (d + 1) 34 0 [some (vR 3 0), some (vI p0)] [] M Q := wpn_sound (cuts := []) ok34 11 0 _ _ _ h
theorem e34 {X : Cx} {d : Nat} {M M2 : Mem} {p0 : Int32} {r : Int32} (h : V X d 34 0 [some (vR 3 0), some (vI p0)] [] M (fun r' M' => r' = (some (vI r)) ∧ M' = M2)) : CC X d 34 [vR 3 0, vI p0] M (some (vI r)) M2 := CC_of (by decide) trivial (Nat.le_of_ble_eq_true rfl) (by simp [c1]) h
-- ClayBoots$Reader.isNumber, from 0
set_option maxRecDepth 100000 in
theorem w35_0 {X : Cx} {d : Nat} {M : Mem} {Q : Option Vl → Mem → Prop}
    (h : (¬ (M.1 3 0 13) = 0 → isB 0 ∧ Q (some (vI 0)) M) ∧ ((M.1 3 0 13) = 0 → (10000 ≤ (M.1 3 0 10) → isB 0 ∧ Q (some (vI 0)) M) ∧ (¬ 10000 ≤ (M.1 3 0 10) → isB 1 ∧ Q (some (vI 1)) M))) :
    V X (d + 1) 35 0 [some (vR 3 0)] [] M Q := wpn_sound (cuts := []) ok35 11 0 _ _ _ h
theorem e35 {X : Cx} {d : Nat} {M M2 : Mem} {r : Int32} (h : V X d 35 0 [some (vR 3 0)] [] M (fun r' M' => r' = (some (vI r)) ∧ M' = M2)) : CC X d 35 [vR 3 0] M (some (vI r)) M2 := CC_of (by decide) trivial (Nat.le_of_ble_eq_true rfl) (by simp [c1]) h
-- ClayBoots$Reader.step, from 0
set_option maxRecDepth 100000 in
theorem w36_0 {X : Cx} {d : Nat} {M : Mem} {Q : Option Vl → Mem → Prop}
    (h : (((M.1 3 0 8) - 1) ≤ (M.1 3 0 9) → Q (none) M) ∧ (¬ ((M.1 3 0 8) - 1) ≤ (M.1 3 0 9) → (400 ≤ (M.1 3 0 9) → Q (none) M) ∧ (¬ 400 ≤ (M.1 3 0 9) → ∀ M1, M1 = st M 3 0 9 ((M.1 3 0 9) + 1) → inb (M1.1 3 0 9) 401 ∧ ∀ M2, M2 = st M1 3 0 10 (M1.1 5 0 (ix (M1.1 3 0 9))) → Q (none) M2))) :
    V X (d + 1) 36 0 [some (vR 3 0)] [] M Q := wpn_sound (cuts := []) ok36 26 0 _ _ _ h
theorem e36 {X : Cx} {d : Nat} {M M2 : Mem} (h : V X d 36 0 [some (vR 3 0)] [] M (fun r' M' => r' = none ∧ M' = M2)) : CC X d 36 [vR 3 0] M none M2 := CC_of (by decide) trivial (Nat.le_of_ble_eq_true rfl) (by simp [c1]) h
-- ClayBoots$Reader.blame, from 0
set_option maxRecDepth 100000 in
theorem w37_0 {X : Cx} {d : Nat} {M : Mem} {Q : Option Vl → Mem → Prop} {p0 : Int32}
    (h : (¬ (M.1 3 0 13) = 0 → Q (none) M) ∧ ((M.1 3 0 13) = 0 → ∀ M1, M1 = st M 3 0 13 p0 → (400 < (M1.1 3 0 9) → ∀ M2, M2 = st M1 3 0 14 (-1) → Q (none) M2) ∧ (¬ 400 < (M1.1 3 0 9) → inb (M1.1 3 0 9) 401 ∧ ∀ M3, M3 = st M1 3 0 14 (M1.1 6 0 (ix (M1.1 3 0 9))) → Q (none) M3))) :
    V X (d + 1) 37 0 [some (vR 3 0), some (vI p0)] [] M Q := wpn_sound (cuts := []) ok37 20 0 _ _ _ h
theorem e37 {X : Cx} {d : Nat} {M M2 : Mem} {p0 : Int32} (h : V X d 37 0 [some (vR 3 0), some (vI p0)] [] M (fun r' M' => r' = none ∧ M' = M2)) : CC X d 37 [vR 3 0, vI p0] M none M2 := CC_of (by decide) trivial (Nat.le_of_ble_eq_true rfl) (by simp [c1]) h
-- ClayBoots$Reader.need, from 0
set_option maxRecDepth 100000 in
theorem w38_0 {X : Cx} {d : Nat} {M : Mem} {Q : Option Vl → Mem → Prop} {p0 : Int32}
    (h : ∃ (r1 : Int32) (M1 : Mem), CC X d 34 [vR 3 0, vI p0] M (some (vI r1)) M1 ∧ (r1 = 0 → ∃ (M2 : Mem), CC X d 37 [vR 3 0, vI 1] M1 none M2 ∧ Q (none) M2) ∧ (¬ r1 = 0 → ∃ (M3 : Mem), CC X d 36 [vR 3 0] M1 none M3 ∧ Q (none) M3)) :
    V X (d + 1) 38 0 [some (vR 3 0), some (vI p0)] [] M Q := wpn_sound (cuts := []) ok38 9 0 _ _ _ h
theorem e38 {X : Cx} {d : Nat} {M M2 : Mem} {p0 : Int32} (h : V X d 38 0 [some (vR 3 0), some (vI p0)] [] M (fun r' M' => r' = none ∧ M' = M2)) : CC X d 38 [vR 3 0, vI p0] M none M2 := CC_of (by decide) trivial (Nat.le_of_ble_eq_true rfl) (by simp [c1]) h
-- ClayBoots$Reader.numberWithin, from 0
set_option maxRecDepth 100000 in
theorem w39_0 {X : Cx} {d : Nat} {M : Mem} {Q : Option Vl → Mem → Prop} {p0 p1 : Int32}
    (h : ∃ (r1 : Int32) (M1 : Mem), CC X d 35 [vR 3 0] M (some (vI r1)) M1 ∧ (¬ r1 = 0 → ((M.1 3 0 10) < p0 → ∃ (M2 : Mem), CC X d 37 [vR 3 0, vI 2] M1 none M2 ∧ Q (some (vI 0)) M2) ∧ (¬ (M.1 3 0 10) < p0 → ((M.1 3 0 10) ≤ p1 → ∃ (M3 : Mem), CC X d 36 [vR 3 0] M1 none M3 ∧ Q (some (vI (M.1 3 0 10))) M3) ∧ (¬ (M.1 3 0 10) ≤ p1 → ∃ (M4 : Mem), CC X d 37 [vR 3 0, vI 2] M1 none M4 ∧ Q (some (vI 0)) M4))) ∧ (r1 = 0 → ∃ (M5 : Mem), CC X d 37 [vR 3 0, vI 1] M1 none M5 ∧ Q (some (vI 0)) M5)) :
    V X (d + 1) 39 0 [some (vR 3 0), some (vI p0), some (vI p1), none] [] M Q := wpn_sound (cuts := []) ok39 18 0 _ _ _ h
theorem e39 {X : Cx} {d : Nat} {M M2 : Mem} {p0 p1 : Int32} {r : Int32} (h : V X d 39 0 [some (vR 3 0), some (vI p0), some (vI p1), none] [] M (fun r' M' => r' = (some (vI r)) ∧ M' = M2)) : CC X d 39 [vR 3 0, vI p0, vI p1] M (some (vI r)) M2 := CC_of (by decide) trivial (Nat.le_of_ble_eq_true rfl) (by simp [c1]) h
-- ClayBoots$Reader.beginLine, from 0
set_option maxRecDepth 100000 in
theorem w40_0 {X : Cx} {d : Nat} {M : Mem} {Q : Option Vl → Mem → Prop} {p0 p1 : Int32}
    (h : (¬ p0 = 0 → (p1 < 16 → ∃ (M1 : Mem), CC X d 36 [vR 3 0] M none M1 ∧ Q (none) M1) ∧ (¬ p1 < 16 → ∃ (M2 : Mem), CC X d 37 [vR 3 0, vI 3] M none M2 ∧ Q (none) M2)) ∧ (p0 = 0 → ∃ (M3 : Mem), CC X d 37 [vR 3 0, vI 1] M none M3 ∧ Q (none) M3)) :
    V X (d + 1) 40 0 [some (vR 3 0), some (vI p0), some (vI p1)] [] M Q := wpn_sound (cuts := []) ok40 11 0 _ _ _ h
theorem e40 {X : Cx} {d : Nat} {M M2 : Mem} {p0 p1 : Int32} (h : V X d 40 0 [some (vR 3 0), some (vI p0), some (vI p1)] [] M (fun r' M' => r' = none ∧ M' = M2)) : CC X d 40 [vR 3 0, vI p0, vI p1] M none M2 := CC_of (by decide) trivial (Nat.le_of_ble_eq_true rfl) (by simp [c1]) h
-- ClayBoots$Reader.lawLine, from 0
set_option maxRecDepth 100000 in
theorem w41_0 {X : Cx} {d : Nat} {M : Mem} {Q : Option Vl → Mem → Prop} {p0 : Int32}
    (h : ((M.1 3 0 10) = 10010 → ∃ (M1 : Mem), CC X d 40 [vR 3 0, vI 1, vI p0] M none M1 ∧ (p0 < 0 → Q (none) M1) ∧ (¬ p0 < 0 → (p0 < 16 → inb p0 16 ∧ ∀ M2, M2 = st M1 42 1 (ix p0) (M.1 3 0 10) → inb p0 16 ∧ ∀ M3, M3 = st M2 43 1 (ix p0) (M2.1 40 1 1) → ∃ (M4 : Mem), CC X d 42 [vR 3 0] M3 none M4 ∧ inb p0 16 ∧ ∀ M5, M5 = st M4 44 1 (ix p0) (M4.1 40 1 1) → ∃ (r1 : Int32) (M6 : Mem), CC X d 34 [vR 3 0, vI 10013] M5 (some (vI r1)) M6 ∧ (r1 = 0 → inb p0 16 ∧ ∀ M7, M7 = st M6 45 1 (ix p0) (M6.1 40 1 1) → ∃ (M8 : Mem), CC X d 38 [vR 3 0, vI 20059] M7 none M8 ∧ ∀ M9, M9 = st M8 40 1 0 (p0 + 1) → Q (none) M9) ∧ (¬ r1 = 0 → ∃ (M10 : Mem), CC X d 36 [vR 3 0] M6 none M10 ∧ ∃ (M11 : Mem), CC X d 45 [vR 3 0] M10 none M11 ∧ inb p0 16 ∧ ∀ M12, M12 = st M11 45 1 (ix p0) (M11.1 40 1 1) → ∃ (M13 : Mem), CC X d 38 [vR 3 0, vI 20059] M12 none M13 ∧ ∀ M14, M14 = st M13 40 1 0 (p0 + 1) → Q (none) M14)) ∧ (¬ p0 < 16 → Q (none) M1))) ∧ (¬ (M.1 3 0 10) = 10010 → ((M.1 3 0 10) = 10011 → ∃ (M15 : Mem), CC X d 40 [vR 3 0, vI 1, vI p0] M none M15 ∧ (p0 < 0 → Q (none) M15) ∧ (¬ p0 < 0 → (p0 < 16 → inb p0 16 ∧ ∀ M16, M16 = st M15 42 1 (ix p0) (M.1 3 0 10) → inb p0 16 ∧ ∀ M17, M17 = st M16 43 1 (ix p0) (M16.1 40 1 1) → ∃ (M18 : Mem), CC X d 42 [vR 3 0] M17 none M18 ∧ inb p0 16 ∧ ∀ M19, M19 = st M18 44 1 (ix p0) (M18.1 40 1 1) → ∃ (r2 : Int32) (M20 : Mem), CC X d 34 [vR 3 0, vI 10013] M19 (some (vI r2)) M20 ∧ (r2 = 0 → inb p0 16 ∧ ∀ M21, M21 = st M20 45 1 (ix p0) (M20.1 40 1 1) → ∃ (M22 : Mem), CC X d 38 [vR 3 0, vI 20059] M21 none M22 ∧ ∀ M23, M23 = st M22 40 1 0 (p0 + 1) → Q (none) M23) ∧ (¬ r2 = 0 → ∃ (M24 : Mem), CC X d 36 [vR 3 0] M20 none M24 ∧ ∃ (M25 : Mem), CC X d 45 [vR 3 0] M24 none M25 ∧ inb p0 16 ∧ ∀ M26, M26 = st M25 45 1 (ix p0) (M25.1 40 1 1) → ∃ (M27 : Mem), CC X d 38 [vR 3 0, vI 20059] M26 none M27 ∧ ∀ M28, M28 = st M27 40 1 0 (p0 + 1) → Q (none) M28)) ∧ (¬ p0 < 16 → Q (none) M15))) ∧ (¬ (M.1 3 0 10) = 10011 → (¬ (M.1 3 0 10) = 10012 → ∃ (M29 : Mem), CC X d 40 [vR 3 0, vI 0, vI p0] M none M29 ∧ (p0 < 0 → Q (none) M29) ∧ (¬ p0 < 0 → (p0 < 16 → inb p0 16 ∧ ∀ M30, M30 = st M29 42 1 (ix p0) (M.1 3 0 10) → inb p0 16 ∧ ∀ M31, M31 = st M30 43 1 (ix p0) (M30.1 40 1 1) → ∃ (M32 : Mem), CC X d 42 [vR 3 0] M31 none M32 ∧ inb p0 16 ∧ ∀ M33, M33 = st M32 44 1 (ix p0) (M32.1 40 1 1) → ∃ (r3 : Int32) (M34 : Mem), CC X d 34 [vR 3 0, vI 10013] M33 (some (vI r3)) M34 ∧ (r3 = 0 → inb p0 16 ∧ ∀ M35, M35 = st M34 45 1 (ix p0) (M34.1 40 1 1) → ∃ (M36 : Mem), CC X d 38 [vR 3 0, vI 20059] M35 none M36 ∧ ∀ M37, M37 = st M36 40 1 0 (p0 + 1) → Q (none) M37) ∧ (¬ r3 = 0 → ∃ (M38 : Mem), CC X d 36 [vR 3 0] M34 none M38 ∧ ∃ (M39 : Mem), CC X d 45 [vR 3 0] M38 none M39 ∧ inb p0 16 ∧ ∀ M40, M40 = st M39 45 1 (ix p0) (M39.1 40 1 1) → ∃ (M41 : Mem), CC X d 38 [vR 3 0, vI 20059] M40 none M41 ∧ ∀ M42, M42 = st M41 40 1 0 (p0 + 1) → Q (none) M42)) ∧ (¬ p0 < 16 → Q (none) M29))) ∧ ((M.1 3 0 10) = 10012 → ∃ (M43 : Mem), CC X d 40 [vR 3 0, vI 1, vI p0] M none M43 ∧ (p0 < 0 → Q (none) M43) ∧ (¬ p0 < 0 → (p0 < 16 → inb p0 16 ∧ ∀ M44, M44 = st M43 42 1 (ix p0) (M.1 3 0 10) → inb p0 16 ∧ ∀ M45, M45 = st M44 43 1 (ix p0) (M44.1 40 1 1) → ∃ (M46 : Mem), CC X d 42 [vR 3 0] M45 none M46 ∧ inb p0 16 ∧ ∀ M47, M47 = st M46 44 1 (ix p0) (M46.1 40 1 1) → ∃ (r4 : Int32) (M48 : Mem), CC X d 34 [vR 3 0, vI 10013] M47 (some (vI r4)) M48 ∧ (r4 = 0 → inb p0 16 ∧ ∀ M49, M49 = st M48 45 1 (ix p0) (M48.1 40 1 1) → ∃ (M50 : Mem), CC X d 38 [vR 3 0, vI 20059] M49 none M50 ∧ ∀ M51, M51 = st M50 40 1 0 (p0 + 1) → Q (none) M51) ∧ (¬ r4 = 0 → ∃ (M52 : Mem), CC X d 36 [vR 3 0] M48 none M52 ∧ ∃ (M53 : Mem), CC X d 45 [vR 3 0] M52 none M53 ∧ inb p0 16 ∧ ∀ M54, M54 = st M53 45 1 (ix p0) (M53.1 40 1 1) → ∃ (M55 : Mem), CC X d 38 [vR 3 0, vI 20059] M54 none M55 ∧ ∀ M56, M56 = st M55 40 1 0 (p0 + 1) → Q (none) M56)) ∧ (¬ p0 < 16 → Q (none) M43)))))) :
    V X (d + 1) 41 0 [some (vR 3 0), some (vI p0), none] [] M Q := wpn_sound (cuts := []) ok41 73 0 _ _ _ h
theorem e41 {X : Cx} {d : Nat} {M M2 : Mem} {p0 : Int32} (h : V X d 41 0 [some (vR 3 0), some (vI p0), none] [] M (fun r' M' => r' = none ∧ M' = M2)) : CC X d 41 [vR 3 0, vI p0] M none M2 := CC_of (by decide) trivial (Nat.le_of_ble_eq_true rfl) (by simp [c1]) h
-- ClayBoots$Reader.sum, from 0
set_option maxRecDepth 100000 in
theorem w42_0 {X : Cx} {d : Nat} {M : Mem} {Q : Option Vl → Mem → Prop}
    (h : V X (d + 1) 42 4 [some (vR 3 0), some (vI (-1)), some (vI 0)] [] M Q) :
    V X (d + 1) 42 0 [some (vR 3 0), none, none] [] M Q := wpn_sound (cuts := [(4, [true, true, true])]) ok42 5 0 _ _ _ h
-- ClayBoots$Reader.sum, from 4
set_option maxRecDepth 100000 in
theorem w42_4 {X : Cx} {d : Nat} {M : Mem} {Q : Option Vl → Mem → Prop} {x1 x2 : Int32}
    (h : (400 ≤ x2 → Q (none) M) ∧ (¬ 400 ≤ x2 → ∃ (M1 : Mem), CC X d 43 [vR 3 0] M none M1 ∧ (x1 = (-1) → ∃ (r1 : Int32) (M2 : Mem), CC X d 34 [vR 3 0, vI 20043] M1 (some (vI r1)) M2 ∧ (¬ r1 = 0 → ∃ (M3 : Mem), CC X d 36 [vR 3 0] M2 none M3 ∧ V X (d + 1) 42 4 [some (vR 3 0), some (vI (M2.1 3 0 10)), some (vI (x2 + 1))] [] M3 Q) ∧ (r1 = 0 → ∃ (r2 : Int32) (M4 : Mem), CC X d 34 [vR 3 0, vI 20045] M2 (some (vI r2)) M4 ∧ (¬ r2 = 0 → ∃ (M5 : Mem), CC X d 36 [vR 3 0] M4 none M5 ∧ V X (d + 1) 42 4 [some (vR 3 0), some (vI (M4.1 3 0 10)), some (vI (x2 + 1))] [] M5 Q) ∧ (r2 = 0 → Q (none) M4))) ∧ (¬ x1 = (-1) → ∃ (M6 : Mem), CC X d 4 [vR 40 1, vI x1] M1 none M6 ∧ ∃ (r3 : Int32) (M7 : Mem), CC X d 34 [vR 3 0, vI 20043] M6 (some (vI r3)) M7 ∧ (¬ r3 = 0 → ∃ (M8 : Mem), CC X d 36 [vR 3 0] M7 none M8 ∧ V X (d + 1) 42 4 [some (vR 3 0), some (vI (M7.1 3 0 10)), some (vI (x2 + 1))] [] M8 Q) ∧ (r3 = 0 → ∃ (r4 : Int32) (M9 : Mem), CC X d 34 [vR 3 0, vI 20045] M7 (some (vI r4)) M9 ∧ (¬ r4 = 0 → ∃ (M10 : Mem), CC X d 36 [vR 3 0] M9 none M10 ∧ V X (d + 1) 42 4 [some (vR 3 0), some (vI (M9.1 3 0 10)), some (vI (x2 + 1))] [] M10 Q) ∧ (r4 = 0 → Q (none) M9))))) :
    V X (d + 1) 42 4 [some (vR 3 0), some (vI x1), some (vI x2)] [] M Q := wpn_sound (cuts := [(4, [true, true, true])]) ok42 28 4 _ _ _ h
theorem e42 {X : Cx} {d : Nat} {M M2 : Mem} (h : V X d 42 0 [some (vR 3 0), none, none] [] M (fun r' M' => r' = none ∧ M' = M2)) : CC X d 42 [vR 3 0] M none M2 := CC_of (by decide) trivial (Nat.le_of_ble_eq_true rfl) (by simp [c1]) h
