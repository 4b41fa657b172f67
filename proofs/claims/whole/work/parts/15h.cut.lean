-- ClayBootsModel.wear, from 0
set_option maxRecDepth 100000 in
theorem w249_0 {X : Cx} {d : Nat} {M : Mem} {Q : Option Vl → Mem → Prop} {p0 p1 : Int32}
    (h : (¬ p0 = (-1) → ∃ (r1 : Int32) (M1 : Mem), CC X d 151 [vI p0, vI 0, vI 99] M (some (vI r1)) M1 ∧ (r1 = 0 → Q (some (vI (-1))) M1) ∧ (¬ r1 = 0 → ∃ (r2 : Int32) (M2 : Mem), CC X d 151 [vI p1, vI 0, vI 99] M1 (some (vI r2)) M2 ∧ (r2 = 0 → Q (some (vI (-1))) M2) ∧ (¬ r2 = 0 → inb 236 2129 ∧ (¬ (M2.1 101 0 (ix 236)) = 10 → inb 236 2129 ∧ inb (557 + (2 * (M2.1 101 0 (ix 236)))) 2129 ∧ ∀ M3, M3 = st M2 101 0 (ix (557 + (2 * (M2.1 101 0 (ix 236))))) p0 → inb 236 2129 ∧ inb ((557 + (2 * (M3.1 101 0 (ix 236)))) + 1) 2129 ∧ ∀ M4, M4 = st M3 101 0 (ix ((557 + (2 * (M3.1 101 0 (ix 236)))) + 1)) p1 → inb 236 2129 ∧ inb 236 2129 ∧ ∀ M5, M5 = st M4 101 0 (ix 236) ((M4.1 101 0 (ix 236)) + 1) → inb 236 2129 ∧ Q (some (vI (M5.1 101 0 (ix 236)))) M5) ∧ ((M2.1 101 0 (ix 236)) = 10 → Q (some (vI (-1))) M2)))) ∧ (p0 = (-1) → inb 236 2129 ∧ ∀ M6, M6 = st M 101 0 (ix 236) 0 → Q (some (vI 0)) M6)) :
    V X (d + 1) 249 0 [some (vR 100 0), some (vI p0), some (vI p1)] [] M Q := wpn_sound (cuts := []) ok249 59 0 _ _ _ h
theorem e249 {X : Cx} {d : Nat} {M M2 : Mem} {p0 p1 : Int32} {r : Int32} (h : V X d 249 0 [some (vR 100 0), some (vI p0), some (vI p1)] [] M (fun r' M' => r' = (some (vI r)) ∧ M' = M2)) : CC X d 249 [vR 100 0, vI p0, vI p1] M (some (vI r)) M2 := CC_of (by decide) trivial (Nat.le_of_ble_eq_true rfl) (by simp [c1]) h
-- ClayBootsModel.wornFrom, from 0
set_option maxRecDepth 100000 in
theorem w250_0 {X : Cx} {d : Nat} {M : Mem} {Q : Option Vl → Mem → Prop} {p0 p1 p2 : Int32}
    (h : inb (557 + (2 * p0)) 2129 ∧ ∃ (r1 : Int32) (M1 : Mem), CC X d 154 [vI (M.1 101 0 (ix (557 + (2 * p0)))), vI p1] M (some (vI r1)) M1 ∧ inb ((557 + (2 * p0)) + 1) 2129 ∧ ∃ (r2 : Int32) (M2 : Mem), CC X d 154 [vI (M1.1 101 0 (ix ((557 + (2 * p0)) + 1))), vI p2] M1 (some (vI r2)) M2 ∧ Q (some (vI (r1 + r2))) M2) :
    V X (d + 1) 250 0 [some (vR 100 0), some (vI p0), some (vI p1), some (vI p2)] [] M Q := wpn_sound (cuts := []) ok250 25 0 _ _ _ h
theorem e250 {X : Cx} {d : Nat} {M M2 : Mem} {p0 p1 p2 : Int32} {r : Int32} (h : V X d 250 0 [some (vR 100 0), some (vI p0), some (vI p1), some (vI p2)] [] M (fun r' M' => r' = (some (vI r)) ∧ M' = M2)) : CC X d 250 [vR 100 0, vI p0, vI p1, vI p2] M (some (vI r)) M2 := CC_of (by decide) trivial (Nat.le_of_ble_eq_true rfl) (by simp [c1]) h
-- ClayBootsModel.whose, from 0
set_option maxRecDepth 100000 in
theorem w251_0 {X : Cx} {d : Nat} {M : Mem} {Q : Option Vl → Mem → Prop} {p0 p1 : Int32}
    (h : ∃ (r1 : Int32) (M1 : Mem), CC X d 151 [vI p0, vI 0, vI 99] M (some (vI r1)) M1 ∧ (r1 = 0 → Q (some (vI (-1))) M1) ∧ (¬ r1 = 0 → ∃ (r2 : Int32) (M2 : Mem), CC X d 151 [vI p1, vI 0, vI 99] M1 (some (vI r2)) M2 ∧ (r2 = 0 → Q (some (vI (-1))) M2) ∧ (¬ r2 = 0 → inb 236 2129 ∧ (¬ (M2.1 101 0 (ix 236)) = 0 → V X (d + 1) 251 38 [some (vR 100 0), some (vI p0), some (vI p1), some (vI 0), some (vI 1)] [] M2 Q) ∧ ((M2.1 101 0 (ix 236)) = 0 → Q (some (vI (-1))) M2)))) :
    V X (d + 1) 251 0 [some (vR 100 0), some (vI p0), some (vI p1), none, none] [] M Q := wpn_sound (cuts := [(38, [true, true, true, true, true])]) ok251 20 0 _ _ _ h
-- ClayBootsModel.whose, from 38
set_option maxRecDepth 100000 in
theorem w251_38 {X : Cx} {d : Nat} {M : Mem} {Q : Option Vl → Mem → Prop} {x1 x2 x3 x4 : Int32}
    (h : inb 236 2129 ∧ ((M.1 101 0 (ix 236)) ≤ x4 → Q (some (vI x3)) M) ∧ (¬ (M.1 101 0 (ix 236)) ≤ x4 → ∃ (r1 : Int32) (M1 : Mem), CC X d 250 [vR 100 0, vI x4, vI x1, vI x2] M (some (vI r1)) M1 ∧ ∃ (r2 : Int32) (M2 : Mem), CC X d 250 [vR 100 0, vI x3, vI x1, vI x2] M1 (some (vI r2)) M2 ∧ (r2 ≤ r1 → V X (d + 1) 251 38 [some (vR 100 0), some (vI x1), some (vI x2), some (vI x3), some (vI (x4 + 1))] [] M2 Q) ∧ (¬ r2 ≤ r1 → V X (d + 1) 251 38 [some (vR 100 0), some (vI x1), some (vI x2), some (vI x4), some (vI (x4 + 1))] [] M2 Q))) :
    V X (d + 1) 251 38 [some (vR 100 0), some (vI x1), some (vI x2), some (vI x3), some (vI x4)] [] M Q := wpn_sound (cuts := [(38, [true, true, true, true, true])]) ok251 22 38 _ _ _ h
theorem e251 {X : Cx} {d : Nat} {M M2 : Mem} {p0 p1 : Int32} {r : Int32} (h : V X d 251 0 [some (vR 100 0), some (vI p0), some (vI p1), none, none] [] M (fun r' M' => r' = (some (vI r)) ∧ M' = M2)) : CC X d 251 [vR 100 0, vI p0, vI p1] M (some (vI r)) M2 := CC_of (by decide) trivial (Nat.le_of_ble_eq_true rfl) (by simp [c1]) h
-- ClayBootsModel.couples, from 0
set_option maxRecDepth 100000 in
theorem w252_0 {X : Cx} {d : Nat} {M : Mem} {Q : Option Vl → Mem → Prop} {p0 : Int32}
    (h : ∃ (r1 : Int32) (M1 : Mem), CC X d 151 [vI p0, vI 0, vI 198] M (some (vI r1)) M1 ∧ (¬ r1 = 0 → V X (d + 1) 252 17 [some (vR 100 0), some (vI p0), some (vI 0), some (vI 0), none] [] M1 Q) ∧ (r1 = 0 → Q (some (vI (-1))) M1)) :
    V X (d + 1) 252 0 [some (vR 100 0), some (vI p0), none, none, none] [] M Q := wpn_sound (cuts := [(17, [true, true, true, true, false]), (32, [true, true, true, true, true])]) ok252 10 0 _ _ _ h
-- ClayBootsModel.couples, from 17
set_option maxRecDepth 100000 in
theorem w252_17 {X : Cx} {d : Nat} {M : Mem} {Q : Option Vl → Mem → Prop} {x1 x2 x3 : Int32}
    (h : inb 236 2129 ∧ ((M.1 101 0 (ix 236)) ≤ x3 → Q (some (vI x2)) M) ∧ (¬ (M.1 101 0 (ix 236)) ≤ x3 → V X (d + 1) 252 32 [some (vR 100 0), some (vI x1), some (vI x2), some (vI x3), some (vI 0)] [] M Q)) :
    V X (d + 1) 252 17 [some (vR 100 0), some (vI x1), some (vI x2), some (vI x3), none] [] M Q := wpn_sound (cuts := [(17, [true, true, true, true, false]), (32, [true, true, true, true, true])]) ok252 9 17 _ _ _ h
-- ClayBootsModel.couples, from 32
set_option maxRecDepth 100000 in
theorem w252_32 {X : Cx} {d : Nat} {M : Mem} {Q : Option Vl → Mem → Prop} {x1 x2 x3 x4 : Int32}
    (h : (x3 ≤ x4 → V X (d + 1) 252 17 [some (vR 100 0), some (vI x1), some (vI x2), some (vI (x3 + 1)), none] [] M Q) ∧ (¬ x3 ≤ x4 → inb (557 + (2 * x4)) 2129 ∧ inb ((557 + (2 * x4)) + 1) 2129 ∧ ∃ (r1 : Int32) (M1 : Mem), CC X d 250 [vR 100 0, vI x3, vI (M.1 101 0 (ix (557 + (2 * x4)))), vI (M.1 101 0 (ix ((557 + (2 * x4)) + 1)))] M (some (vI r1)) M1 ∧ (x1 < r1 → V X (d + 1) 252 32 [some (vR 100 0), some (vI x1), some (vI (x2 + 0)), some (vI x3), some (vI (x4 + 1))] [] M1 Q) ∧ (¬ x1 < r1 → V X (d + 1) 252 32 [some (vR 100 0), some (vI x1), some (vI (x2 + 1)), some (vI x3), some (vI (x4 + 1))] [] M1 Q))) :
    V X (d + 1) 252 32 [some (vR 100 0), some (vI x1), some (vI x2), some (vI x3), some (vI x4)] [] M Q := wpn_sound (cuts := [(17, [true, true, true, true, false]), (32, [true, true, true, true, true])]) ok252 34 32 _ _ _ h
theorem e252 {X : Cx} {d : Nat} {M M2 : Mem} {p0 : Int32} {r : Int32} (h : V X d 252 0 [some (vR 100 0), some (vI p0), none, none, none] [] M (fun r' M' => r' = (some (vI r)) ∧ M' = M2)) : CC X d 252 [vR 100 0, vI p0] M (some (vI r)) M2 := CC_of (by decide) trivial (Nat.le_of_ble_eq_true rfl) (by simp [c1]) h
-- ClayBootsModel.caller, from 0
set_option maxRecDepth 100000 in
theorem w253_0 {X : Cx} {d : Nat} {M : Mem} {Q : Option Vl → Mem → Prop} {p0 p1 : Int32}
    (h : (¬ p0 = (-1) → ∃ (r1 : Int32) (M1 : Mem), CC X d 151 [vI p0, vI 0, vI 99] M (some (vI r1)) M1 ∧ (r1 = 0 → Q (some (vI (-1))) M1) ∧ (¬ r1 = 0 → ∃ (r2 : Int32) (M2 : Mem), CC X d 151 [vI p1, vI 1, vI 30] M1 (some (vI r2)) M2 ∧ (r2 = 0 → Q (some (vI (-1))) M2) ∧ (¬ r2 = 0 → inb 237 2129 ∧ (¬ (M2.1 101 0 (ix 237)) = 10 → inb 237 2129 ∧ inb (577 + (2 * (M2.1 101 0 (ix 237)))) 2129 ∧ ∀ M3, M3 = st M2 101 0 (ix (577 + (2 * (M2.1 101 0 (ix 237))))) p0 → inb 237 2129 ∧ inb ((577 + (2 * (M3.1 101 0 (ix 237)))) + 1) 2129 ∧ ∀ M4, M4 = st M3 101 0 (ix ((577 + (2 * (M3.1 101 0 (ix 237)))) + 1)) p1 → inb 237 2129 ∧ inb 237 2129 ∧ ∀ M5, M5 = st M4 101 0 (ix 237) ((M4.1 101 0 (ix 237)) + 1) → inb 237 2129 ∧ Q (some (vI (M5.1 101 0 (ix 237)))) M5) ∧ ((M2.1 101 0 (ix 237)) = 10 → Q (some (vI (-1))) M2)))) ∧ (p0 = (-1) → inb 237 2129 ∧ ∀ M6, M6 = st M 101 0 (ix 237) 0 → Q (some (vI 0)) M6)) :
    V X (d + 1) 253 0 [some (vR 100 0), some (vI p0), some (vI p1)] [] M Q := wpn_sound (cuts := []) ok253 59 0 _ _ _ h
theorem e253 {X : Cx} {d : Nat} {M M2 : Mem} {p0 p1 : Int32} {r : Int32} (h : V X d 253 0 [some (vR 100 0), some (vI p0), some (vI p1)] [] M (fun r' M' => r' = (some (vI r)) ∧ M' = M2)) : CC X d 253 [vR 100 0, vI p0, vI p1] M (some (vI r)) M2 := CC_of (by decide) trivial (Nat.le_of_ble_eq_true rfl) (by simp [c1]) h
-- ClayBootsModel.scrapes, from 0
set_option maxRecDepth 100000 in
theorem w254_0 {X : Cx} {d : Nat} {M : Mem} {Q : Option Vl → Mem → Prop} {p0 p1 : Int32}
    (h : V X (d + 1) 254 5 [some (vR 100 0), some (vI p0), some (vI p1), some (vI 0), some (vI 1)] [] M Q) :
    V X (d + 1) 254 0 [some (vR 100 0), some (vI p0), some (vI p1), none, none] [] M Q := wpn_sound (cuts := [(5, [true, true, true, true, true])]) ok254 5 0 _ _ _ h
-- ClayBootsModel.scrapes, from 5
set_option maxRecDepth 100000 in
theorem w254_5 {X : Cx} {d : Nat} {M : Mem} {Q : Option Vl → Mem → Prop} {x1 x2 x3 x4 : Int32}
    (h : (x2 ≤ x4 → inb x3 4 ∧ inb (577 + (2 * x1)) 2129 ∧ ∃ (r1 : Int32) (M1 : Mem), CC X d 153 [vI (M.1 115 0 (ix x3)), vI (M.1 101 0 (ix (577 + (2 * x1))))] M (some (vI r1)) M1 ∧ inb ((577 + (2 * x1)) + 1) 2129 ∧ inb x3 4 ∧ ∀ M2, M2 = st M1 115 0 (ix x3) (r1 + (M1.1 101 0 (ix ((577 + (2 * x1)) + 1)))) → inb x3 4 ∧ Q (some (vI (M2.1 115 0 (ix x3)))) M2) ∧ (¬ x2 ≤ x4 → inb x4 4 ∧ inb x3 4 ∧ ((M.1 115 0 (ix x3)) ≤ (M.1 115 0 (ix x4)) → V X (d + 1) 254 5 [some (vR 100 0), some (vI x1), some (vI x2), some (vI x3), some (vI (x4 + 1))] [] M Q) ∧ (¬ (M.1 115 0 (ix x3)) ≤ (M.1 115 0 (ix x4)) → V X (d + 1) 254 5 [some (vR 100 0), some (vI x1), some (vI x2), some (vI x4), some (vI (x4 + 1))] [] M Q))) :
    V X (d + 1) 254 5 [some (vR 100 0), some (vI x1), some (vI x2), some (vI x3), some (vI x4)] [] M Q := wpn_sound (cuts := [(5, [true, true, true, true, true])]) ok254 37 5 _ _ _ h
theorem e254 {X : Cx} {d : Nat} {M M2 : Mem} {p0 p1 : Int32} {r : Int32} (h : V X d 254 0 [some (vR 100 0), some (vI p0), some (vI p1), none, none] [] M (fun r' M' => r' = (some (vI r)) ∧ M' = M2)) : CC X d 254 [vR 100 0, vI p0, vI p1] M (some (vI r)) M2 := CC_of (by decide) trivial (Nat.le_of_ble_eq_true rfl) (by simp [c1]) h
-- ClayBootsModel.line, from 0
set_option maxRecDepth 100000 in
theorem w255_0 {X : Cx} {d : Nat} {M : Mem} {Q : Option Vl → Mem → Prop} {p0 p1 : Int32}
    (h : ∃ (r1 : Int32) (M1 : Mem), CC X d 151 [vI p0, vI 1, vI 4] M (some (vI r1)) M1 ∧ (r1 = 0 → Q (some (vI (-1))) M1) ∧ (¬ r1 = 0 → ∃ (r2 : Int32) (M2 : Mem), CC X d 151 [vI p1, vI 0, vI 1] M1 (some (vI r2)) M2 ∧ (¬ r2 = 0 → V X (d + 1) 255 22 [some (vR 100 0), some (vI p0), some (vI p1), some (vI 0), none, none, none, none] [] M2 Q) ∧ (r2 = 0 → Q (some (vI (-1))) M2))) :
    V X (d + 1) 255 0 [some (vR 100 0), some (vI p0), some (vI p1), none, none, none, none, none] [] M Q := wpn_sound (cuts := [(22, [true, true, true, true, false, false, false, false]), (48, [true, true, true, true, true, true, false, false]), (58, [true, true, true, true, true, true, true, false])]) ok255 13 0 _ _ _ h
-- ClayBootsModel.line, from 22
set_option maxRecDepth 100000 in
theorem w255_22 {X : Cx} {d : Nat} {M : Mem} {Q : Option Vl → Mem → Prop} {x1 x2 x3 : Int32}
    (h : (4 ≤ x3 → V X (d + 1) 255 48 [some (vR 100 0), some (vI x1), some (vI x2), some (vI 0), some (vI 0), some (vI 0), none, none] [] M Q) ∧ (¬ 4 ≤ x3 → inb x3 4 ∧ ∀ M1, M1 = st M 115 0 (ix x3) 0 → V X (d + 1) 255 22 [some (vR 100 0), some (vI x1), some (vI x2), some (vI (x3 + 1)), none, none, none, none] [] M1 Q)) :
    V X (d + 1) 255 22 [some (vR 100 0), some (vI x1), some (vI x2), some (vI x3), none, none, none, none] [] M Q := wpn_sound (cuts := [(22, [true, true, true, true, false, false, false, false]), (48, [true, true, true, true, true, true, false, false]), (58, [true, true, true, true, true, true, true, false])]) ok255 11 22 _ _ _ h
-- ClayBootsModel.line, from 48
set_option maxRecDepth 100000 in
theorem w255_48 {X : Cx} {d : Nat} {M : Mem} {Q : Option Vl → Mem → Prop} {x1 x2 x3 x4 x5 : Int32}
    (h : (99 < x5 → (¬ x2 = 0 → Q (some (vI x4)) M) ∧ (x2 = 0 → Q (some (vI x3)) M)) ∧ (¬ 99 < x5 → V X (d + 1) 255 58 [some (vR 100 0), some (vI x1), some (vI x2), some (vI x3), some (vI x4), some (vI x5), some (vI 0), none] [] M Q)) :
    V X (d + 1) 255 48 [some (vR 100 0), some (vI x1), some (vI x2), some (vI x3), some (vI x4), some (vI x5), none, none] [] M Q := wpn_sound (cuts := [(22, [true, true, true, true, false, false, false, false]), (48, [true, true, true, true, true, true, false, false]), (58, [true, true, true, true, true, true, true, false])]) ok255 9 48 _ _ _ h
-- ClayBootsModel.line, from 58
set_option maxRecDepth 100000 in
theorem w255_58 {X : Cx} {d : Nat} {M : Mem} {Q : Option Vl → Mem → Prop} {x1 x2 x3 x4 x5 x6 : Int32}
    (h : inb 237 2129 ∧ ((M.1 101 0 (ix 237)) ≤ x6 → V X (d + 1) 255 48 [some (vR 100 0), some (vI x1), some (vI x2), some (vI x3), some (vI x4), some (vI (x5 + 1)), none, none] [] M Q) ∧ (¬ (M.1 101 0 (ix 237)) ≤ x6 → inb (577 + (2 * x6)) 2129 ∧ ((M.1 101 0 (ix (577 + (2 * x6)))) = x5 → ∃ (r1 : Int32) (M1 : Mem), CC X d 254 [vR 100 0, vI x6, vI x1] M (some (vI r1)) M1 ∧ inb ((577 + (2 * x6)) + 1) 2129 ∧ ∃ (r2 : Int32) (M2 : Mem), CC X d 153 [vI x4, vI r1] M1 (some (vI r2)) M2 ∧ V X (d + 1) 255 58 [some (vR 100 0), some (vI x1), some (vI x2), some (vI (x3 + ((r1 - x5) - (M1.1 101 0 (ix ((577 + (2 * x6)) + 1)))))), some (vI r2), some (vI x5), some (vI (x6 + 1)), none] [] M2 Q) ∧ (¬ (M.1 101 0 (ix (577 + (2 * x6)))) = x5 → V X (d + 1) 255 58 [some (vR 100 0), some (vI x1), some (vI x2), some (vI x3), some (vI x4), some (vI x5), some (vI (x6 + 1)), none] [] M Q))) :
    V X (d + 1) 255 58 [some (vR 100 0), some (vI x1), some (vI x2), some (vI x3), some (vI x4), some (vI x5), some (vI x6), none] [] M Q := wpn_sound (cuts := [(22, [true, true, true, true, false, false, false, false]), (48, [true, true, true, true, true, true, false, false]), (58, [true, true, true, true, true, true, true, false])]) ok255 45 58 _ _ _ h
theorem e255 {X : Cx} {d : Nat} {M M2 : Mem} {p0 p1 : Int32} {r : Int32} (h : V X d 255 0 [some (vR 100 0), some (vI p0), some (vI p1), none, none, none, none, none] [] M (fun r' M' => r' = (some (vI r)) ∧ M' = M2)) : CC X d 255 [vR 100 0, vI p0, vI p1] M (some (vI r)) M2 := CC_of (by decide) trivial (Nat.le_of_ble_eq_true rfl) (by simp [c1]) h
-- ClayBootsModel.worth, from 0
set_option maxRecDepth 100000 in
theorem w256_0 {X : Cx} {d : Nat} {M : Mem} {Q : Option Vl → Mem → Prop} {p0 : Int32}
    (h : (¬ p0 = (-1) → ∃ (r1 : Int32) (M1 : Mem), CC X d 151 [vI p0, vI 0, vI 99] M (some (vI r1)) M1 ∧ (r1 = 0 → Q (some (vI (-1))) M1) ∧ (¬ r1 = 0 → inb 238 2129 ∧ (¬ (M1.1 101 0 (ix 238)) = 20 → inb 238 2129 ∧ inb (597 + (M1.1 101 0 (ix 238))) 2129 ∧ ∀ M2, M2 = st M1 101 0 (ix (597 + (M1.1 101 0 (ix 238)))) p0 → inb 238 2129 ∧ inb 238 2129 ∧ ∀ M3, M3 = st M2 101 0 (ix 238) ((M2.1 101 0 (ix 238)) + 1) → inb 238 2129 ∧ Q (some (vI (M3.1 101 0 (ix 238)))) M3) ∧ ((M1.1 101 0 (ix 238)) = 20 → Q (some (vI (-1))) M1))) ∧ (p0 = (-1) → inb 238 2129 ∧ ∀ M4, M4 = st M 101 0 (ix 238) 0 → Q (some (vI 0)) M4)) :
    V X (d + 1) 256 0 [some (vR 100 0), some (vI p0)] [] M Q := wpn_sound (cuts := []) ok256 38 0 _ _ _ h
theorem e256 {X : Cx} {d : Nat} {M M2 : Mem} {p0 : Int32} {r : Int32} (h : V X d 256 0 [some (vR 100 0), some (vI p0)] [] M (fun r' M' => r' = (some (vI r)) ∧ M' = M2)) : CC X d 256 [vR 100 0, vI p0] M (some (vI r)) M2 := CC_of (by decide) trivial (Nat.le_of_ble_eq_true rfl) (by simp [c1]) h
-- ClayBootsModel.laysFair, from 0
set_option maxRecDepth 100000 in
theorem w257_0 {X : Cx} {d : Nat} {M : Mem} {Q : Option Vl → Mem → Prop} {p0 : Int32}
    (h : V X (d + 1) 257 3 [some (vR 100 0), some (vI p0), some (vI 30)] [] M Q) :
    V X (d + 1) 257 0 [some (vR 100 0), some (vI p0), none] [] M Q := wpn_sound (cuts := [(3, [true, true, true]), (39, [true, true, true])]) ok257 3 0 _ _ _ h
-- ClayBootsModel.laysFair, from 3
set_option maxRecDepth 100000 in
theorem w257_3 {X : Cx} {d : Nat} {M : Mem} {Q : Option Vl → Mem → Prop} {x1 x2 : Int32}
    (h : inb 238 2129 ∧ (x2 < (M.1 101 0 (ix 238)) → inb 238 2129 ∧ V X (d + 1) 257 39 [some (vR 100 0), some (vI x1), some (vI ((M.1 101 0 (ix 238)) - 1))] [] M Q) ∧ (¬ x2 < (M.1 101 0 (ix 238)) → inb x2 31 ∧ ∀ M1, M1 = st M 116 0 (ix x2) 0 → V X (d + 1) 257 3 [some (vR 100 0), some (vI x1), some (vI (x2 + (-1)))] [] M1 Q)) :
    V X (d + 1) 257 3 [some (vR 100 0), some (vI x1), some (vI x2)] [] M Q := wpn_sound (cuts := [(3, [true, true, true]), (39, [true, true, true])]) ok257 14 3 _ _ _ h
-- ClayBootsModel.laysFair, from 39
set_option maxRecDepth 100000 in
theorem w257_39 {X : Cx} {d : Nat} {M : Mem} {Q : Option Vl → Mem → Prop} {x1 x2 : Int32}
    (h : (x2 < 0 → Q (none) M) ∧ (¬ x2 < 0 → inb (x2 + 1) 31 ∧ inb (597 + x2) 2129 ∧ inb ((x2 + x1) + 1) 31 ∧ ∃ (r1 : Int32) (M1 : Mem), CC X d 153 [vI (M.1 116 0 (ix (x2 + 1))), vI ((M.1 101 0 (ix (597 + x2))) + (M.1 116 0 (ix ((x2 + x1) + 1))))] M (some (vI r1)) M1 ∧ inb x2 31 ∧ ∀ M2, M2 = st M1 116 0 (ix x2) r1 → V X (d + 1) 257 39 [some (vR 100 0), some (vI x1), some (vI (x2 + (-1)))] [] M2 Q)) :
    V X (d + 1) 257 39 [some (vR 100 0), some (vI x1), some (vI x2)] [] M Q := wpn_sound (cuts := [(3, [true, true, true]), (39, [true, true, true])]) ok257 31 39 _ _ _ h
theorem e257 {X : Cx} {d : Nat} {M M2 : Mem} {p0 : Int32} (h : V X d 257 0 [some (vR 100 0), some (vI p0), none] [] M (fun r' M' => r' = none ∧ M' = M2)) : CC X d 257 [vR 100 0, vI p0] M none M2 := CC_of (by decide) trivial (Nat.le_of_ble_eq_true rfl) (by simp [c1]) h
-- ClayBootsModel.fair, from 0
set_option maxRecDepth 100000 in
theorem w258_0 {X : Cx} {d : Nat} {M : Mem} {Q : Option Vl → Mem → Prop} {p0 p1 : Int32}
    (h : ∃ (r1 : Int32) (M1 : Mem), CC X d 151 [vI p0, vI 0, vI 9] M (some (vI r1)) M1 ∧ (r1 = 0 → Q (some (vI (-1))) M1) ∧ (¬ r1 = 0 → ∃ (r2 : Int32) (M2 : Mem), CC X d 151 [vI p1, vI 0, vI 1] M1 (some (vI r2)) M2 ∧ (r2 = 0 → Q (some (vI (-1))) M2) ∧ (¬ r2 = 0 → (¬ p1 = 1 → ∃ (M3 : Mem), CC X d 257 [vR 100 0, vI p0] M2 none M3 ∧ (¬ p1 = 0 → V X (d + 1) 258 55 [some (vR 100 0), some (vI p0), none, some (vI 0)] [] M3 Q) ∧ (p1 = 0 → inb 0 31 ∧ Q (some (vI (M3.1 116 0 (ix 0)))) M3)) ∧ (p1 = 1 → inb 238 2129 ∧ (¬ (M2.1 101 0 (ix 238)) = 0 → ∃ (M4 : Mem), CC X d 257 [vR 100 0, vI p0] M2 none M4 ∧ (¬ p1 = 0 → V X (d + 1) 258 55 [some (vR 100 0), some (vI p0), none, some (vI 0)] [] M4 Q) ∧ (p1 = 0 → inb 0 31 ∧ Q (some (vI (M4.1 116 0 (ix 0)))) M4)) ∧ ((M2.1 101 0 (ix 238)) = 0 → Q (some (vI (-1))) M2))))) :
    V X (d + 1) 258 0 [some (vR 100 0), some (vI p0), some (vI p1), none] [] M Q := wpn_sound (cuts := [(55, [true, true, false, true])]) ok258 29 0 _ _ _ h
-- ClayBootsModel.fair, from 55
set_option maxRecDepth 100000 in
theorem w258_55 {X : Cx} {d : Nat} {M : Mem} {Q : Option Vl → Mem → Prop} {x1 x3 : Int32}
    (h : inb (597 + x3) 2129 ∧ inb ((x3 + x1) + 1) 31 ∧ inb 0 31 ∧ (((M.1 101 0 (ix (597 + x3))) + (M.1 116 0 (ix ((x3 + x1) + 1)))) = (M.1 116 0 (ix 0)) → Q (some (vI x3)) M) ∧ (¬ ((M.1 101 0 (ix (597 + x3))) + (M.1 116 0 (ix ((x3 + x1) + 1)))) = (M.1 116 0 (ix 0)) → V X (d + 1) 258 55 [some (vR 100 0), some (vI x1), none, some (vI (x3 + 1))] [] M Q)) :
    V X (d + 1) 258 55 [some (vR 100 0), some (vI x1), none, some (vI x3)] [] M Q := wpn_sound (cuts := [(55, [true, true, false, true])]) ok258 23 55 _ _ _ h
theorem e258 {X : Cx} {d : Nat} {M M2 : Mem} {p0 p1 : Int32} {r : Int32} (h : V X d 258 0 [some (vR 100 0), some (vI p0), some (vI p1), none] [] M (fun r' M' => r' = (some (vI r)) ∧ M' = M2)) : CC X d 258 [vR 100 0, vI p0, vI p1] M (some (vI r)) M2 := CC_of (by decide) trivial (Nat.le_of_ble_eq_true rfl) (by simp [c1]) h
-- ClayBootsModel.offer, from 0
set_option maxRecDepth 100000 in
theorem w259_0 {X : Cx} {d : Nat} {M : Mem} {Q : Option Vl → Mem → Prop} {p0 p1 : Int32}
    (h : (¬ p0 = (-1) → ∃ (r1 : Int32) (M1 : Mem), CC X d 151 [vI p0, vI 0, vI 3] M (some (vI r1)) M1 ∧ (r1 = 0 → Q (some (vI (-1))) M1) ∧ (¬ r1 = 0 → ∃ (r2 : Int32) (M2 : Mem), CC X d 151 [vI p1, vI 0, vI 99] M1 (some (vI r2)) M2 ∧ (r2 = 0 → Q (some (vI (-1))) M2) ∧ (¬ r2 = 0 → inb 239 2129 ∧ (¬ (M2.1 101 0 (ix 239)) = 8 → inb 239 2129 ∧ inb (617 + (2 * (M2.1 101 0 (ix 239)))) 2129 ∧ ∀ M3, M3 = st M2 101 0 (ix (617 + (2 * (M2.1 101 0 (ix 239))))) p0 → inb 239 2129 ∧ inb ((617 + (2 * (M3.1 101 0 (ix 239)))) + 1) 2129 ∧ ∀ M4, M4 = st M3 101 0 (ix ((617 + (2 * (M3.1 101 0 (ix 239)))) + 1)) p1 → inb 239 2129 ∧ inb 239 2129 ∧ ∀ M5, M5 = st M4 101 0 (ix 239) ((M4.1 101 0 (ix 239)) + 1) → inb 239 2129 ∧ Q (some (vI (M5.1 101 0 (ix 239)))) M5) ∧ ((M2.1 101 0 (ix 239)) = 8 → Q (some (vI (-1))) M2)))) ∧ (p0 = (-1) → inb 239 2129 ∧ ∀ M6, M6 = st M 101 0 (ix 239) 0 → Q (some (vI 0)) M6)) :
    V X (d + 1) 259 0 [some (vR 100 0), some (vI p0), some (vI p1)] [] M Q := wpn_sound (cuts := []) ok259 59 0 _ _ _ h
theorem e259 {X : Cx} {d : Nat} {M M2 : Mem} {p0 p1 : Int32} {r : Int32} (h : V X d 259 0 [some (vR 100 0), some (vI p0), some (vI p1)] [] M (fun r' M' => r' = (some (vI r)) ∧ M' = M2)) : CC X d 259 [vR 100 0, vI p0, vI p1] M (some (vI r)) M2 := CC_of (by decide) trivial (Nat.le_of_ble_eq_true rfl) (by simp [c1]) h
-- ClayBootsModel.greatestOf, from 0
set_option maxRecDepth 100000 in
theorem w260_0 {X : Cx} {d : Nat} {M : Mem} {Q : Option Vl → Mem → Prop} {p0 : Int32}
    (h : V X (d + 1) 260 4 [some (vR 100 0), some (vI p0), some (vI (-1)), some (vI 0)] [] M Q) :
    V X (d + 1) 260 0 [some (vR 100 0), some (vI p0), none, none] [] M Q := wpn_sound (cuts := [(4, [true, true, true, true])]) ok260 5 0 _ _ _ h
-- ClayBootsModel.greatestOf, from 4
set_option maxRecDepth 100000 in
theorem w260_4 {X : Cx} {d : Nat} {M : Mem} {Q : Option Vl → Mem → Prop} {x1 x2 x3 : Int32}
    (h : inb 239 2129 ∧ ((M.1 101 0 (ix 239)) ≤ x3 → Q (some (vI x2)) M) ∧ (¬ (M.1 101 0 (ix 239)) ≤ x3 → inb (617 + (2 * x3)) 2129 ∧ (¬ (M.1 101 0 (ix (617 + (2 * x3)))) = x1 → V X (d + 1) 260 4 [some (vR 100 0), some (vI x1), some (vI x2), some (vI (x3 + 1))] [] M Q) ∧ ((M.1 101 0 (ix (617 + (2 * x3)))) = x1 → inb ((617 + (2 * x3)) + 1) 2129 ∧ ∃ (r1 : Int32) (M1 : Mem), CC X d 153 [vI x2, vI (M.1 101 0 (ix ((617 + (2 * x3)) + 1)))] M (some (vI r1)) M1 ∧ V X (d + 1) 260 4 [some (vR 100 0), some (vI x1), some (vI r1), some (vI (x3 + 1))] [] M1 Q))) :
    V X (d + 1) 260 4 [some (vR 100 0), some (vI x1), some (vI x2), some (vI x3)] [] M Q := wpn_sound (cuts := [(4, [true, true, true, true])]) ok260 32 4 _ _ _ h
theorem e260 {X : Cx} {d : Nat} {M M2 : Mem} {p0 : Int32} {r : Int32} (h : V X d 260 0 [some (vR 100 0), some (vI p0), none, none] [] M (fun r' M' => r' = (some (vI r)) ∧ M' = M2)) : CC X d 260 [vR 100 0, vI p0] M (some (vI r)) M2 := CC_of (by decide) trivial (Nat.le_of_ble_eq_true rfl) (by simp [c1]) h
-- ClayBootsModel.widow, from 0
set_option maxRecDepth 100000 in
theorem w261_0 {X : Cx} {d : Nat} {M : Mem} {Q : Option Vl → Mem → Prop} {p0 : Int32}
    (h : ∃ (r1 : Int32) (M1 : Mem), CC X d 151 [vI p0, vI 0, vI 1] M (some (vI r1)) M1 ∧ (r1 = 0 → Q (some (vI (-1))) M1) ∧ (¬ r1 = 0 → inb 239 2129 ∧ (¬ (M1.1 101 0 (ix 239)) = 0 → V X (d + 1) 261 26 [some (vR 100 0), some (vI p0), some (vI 0), some (vI 1), none] [] M1 Q) ∧ ((M1.1 101 0 (ix 239)) = 0 → Q (some (vI (-1))) M1))) :
    V X (d + 1) 261 0 [some (vR 100 0), some (vI p0), none, none, none] [] M Q := wpn_sound (cuts := [(26, [true, true, true, true, false]), (63, [true, false, true, true, true])]) ok261 15 0 _ _ _ h
-- ClayBootsModel.widow, from 26
set_option maxRecDepth 100000 in
theorem w261_26 {X : Cx} {d : Nat} {M : Mem} {Q : Option Vl → Mem → Prop} {x1 x2 x3 : Int32}
    (h : (4 ≤ x3 → (¬ x1 = 0 → V X (d + 1) 261 63 [some (vR 100 0), none, some (vI x2), some (vI 0), some (vI 0)] [] M Q) ∧ (x1 = 0 → Q (some (vI x2)) M)) ∧ (¬ 4 ≤ x3 → ∃ (r1 : Int32) (M1 : Mem), CC X d 260 [vR 100 0, vI x3] M (some (vI r1)) M1 ∧ ∃ (r2 : Int32) (M2 : Mem), CC X d 260 [vR 100 0, vI x2] M1 (some (vI r2)) M2 ∧ (r1 ≤ r2 → V X (d + 1) 261 26 [some (vR 100 0), some (vI x1), some (vI x2), some (vI (x3 + 1)), none] [] M2 Q) ∧ (¬ r1 ≤ r2 → V X (d + 1) 261 26 [some (vR 100 0), some (vI x1), some (vI x3), some (vI (x3 + 1)), none] [] M2 Q))) :
    V X (d + 1) 261 26 [some (vR 100 0), some (vI x1), some (vI x2), some (vI x3), none] [] M Q := wpn_sound (cuts := [(26, [true, true, true, true, false]), (63, [true, false, true, true, true])]) ok261 15 26 _ _ _ h
-- ClayBootsModel.widow, from 63
set_option maxRecDepth 100000 in
theorem w261_63 {X : Cx} {d : Nat} {M : Mem} {Q : Option Vl → Mem → Prop} {x2 x3 x4 : Int32}
    (h : (4 ≤ x4 → Q (some (vI x3)) M) ∧ (¬ 4 ≤ x4 → (x4 = x2 → V X (d + 1) 261 63 [some (vR 100 0), none, some (vI x2), some (vI x3), some (vI (x4 + 1))] [] M Q) ∧ (¬ x4 = x2 → ∃ (r1 : Int32) (M1 : Mem), CC X d 260 [vR 100 0, vI x4] M (some (vI r1)) M1 ∧ ∃ (r2 : Int32) (M2 : Mem), CC X d 153 [vI x3, vI r1] M1 (some (vI r2)) M2 ∧ V X (d + 1) 261 63 [some (vR 100 0), none, some (vI x2), some (vI r2), some (vI (x4 + 1))] [] M2 Q))) :
    V X (d + 1) 261 63 [some (vR 100 0), none, some (vI x2), some (vI x3), some (vI x4)] [] M Q := wpn_sound (cuts := [(26, [true, true, true, true, false]), (63, [true, false, true, true, true])]) ok261 15 63 _ _ _ h
theorem e261 {X : Cx} {d : Nat} {M M2 : Mem} {p0 : Int32} {r : Int32} (h : V X d 261 0 [some (vR 100 0), some (vI p0), none, none, none] [] M (fun r' M' => r' = (some (vI r)) ∧ M' = M2)) : CC X d 261 [vR 100 0, vI p0] M (some (vI r)) M2 := CC_of (by decide) trivial (Nat.le_of_ble_eq_true rfl) (by simp [c1]) h
-- ClayBootsModel.long0, from 0
set_option maxRecDepth 100000 in
theorem w262_0 {X : Cx} {d : Nat} {M : Mem} {Q : Option Vl → Mem → Prop} {p0 p1 : Int32}
    (h : inb ((479 + (8 * p0)) + p1) 2129 ∧ (¬ (M.1 101 0 (ix ((479 + (8 * p0)) + p1))) = (-1) → inb ((479 + (8 * p0)) + p1) 2129 ∧ Q (some (vI (M.1 101 0 (ix ((479 + (8 * p0)) + p1))))) M) ∧ ((M.1 101 0 (ix ((479 + (8 * p0)) + p1))) = (-1) → Q (some (vI 100000000)) M)) :
    V X (d + 1) 262 0 [some (vR 100 0), some (vI p0), some (vI p1)] [] M Q := wpn_sound (cuts := []) ok262 24 0 _ _ _ h
theorem e262 {X : Cx} {d : Nat} {M M2 : Mem} {p0 p1 : Int32} {r : Int32} (h : V X d 262 0 [some (vR 100 0), some (vI p0), some (vI p1)] [] M (fun r' M' => r' = (some (vI r)) ∧ M' = M2)) : CC X d 262 [vR 100 0, vI p0, vI p1] M (some (vI r)) M2 := CC_of (by decide) trivial (Nat.le_of_ble_eq_true rfl) (by simp [c1]) h
-- ClayBootsModel.spans, from 0
set_option maxRecDepth 100000 in
theorem w263_0 {X : Cx} {d : Nat} {M : Mem} {Q : Option Vl → Mem → Prop}
    (h : V X (d + 1) 263 6 [some (vR 100 0), some (vI 1), some (vI 0), some (vI 1), none, none, none, none] [] M Q) :
    V X (d + 1) 263 0 [some (vR 100 0), none, none, none, none, none, none, none] [] M Q := wpn_sound (cuts := [(6, [true, true, true, true, false, false, false, false]), (29, [true, true, true, true, true, true, true, false]), (45, [true, true, true, true, true, true, true, true])]) ok263 7 0 _ _ _ h
-- ClayBootsModel.spans, from 6
set_option maxRecDepth 100000 in
theorem w263_6 {X : Cx} {d : Nat} {M : Mem} {Q : Option Vl → Mem → Prop} {x1 x2 x3 : Int32}
    (h : inb 230 2129 ∧ ((M.1 101 0 (ix 230)) ≤ x3 → Q (some (vI x2)) M) ∧ (¬ (M.1 101 0 (ix 230)) ≤ x3 → V X (d + 1) 263 29 [some (vR 100 0), some (vI x1), some (vI x2), some (vI x3), some (vI 100000000), some (vI (-1)), some (vI 0), none] [] M Q)) :
    V X (d + 1) 263 6 [some (vR 100 0), some (vI x1), some (vI x2), some (vI x3), none, none, none, none] [] M Q := wpn_sound (cuts := [(6, [true, true, true, true, false, false, false, false]), (29, [true, true, true, true, true, true, true, false]), (45, [true, true, true, true, true, true, true, true])]) ok263 13 6 _ _ _ h
-- ClayBootsModel.spans, from 29
set_option maxRecDepth 100000 in
theorem w263_29 {X : Cx} {d : Nat} {M : Mem} {Q : Option Vl → Mem → Prop} {x1 x2 x3 x4 x5 x6 : Int32}
    (h : inb 230 2129 ∧ ((M.1 101 0 (ix 230)) ≤ x6 → (¬ x5 = (-1) → V X (d + 1) 263 6 [some (vR 100 0), some (vI (x1 ||| (1 <<< (x5 &&& 31)))), some (vI (x2 + x4)), some (vI (x3 + 1)), none, none, none, none] [] M Q) ∧ (x5 = (-1) → Q (some (vI (-1))) M)) ∧ (¬ (M.1 101 0 (ix 230)) ≤ x6 → V X (d + 1) 263 45 [some (vR 100 0), some (vI x1), some (vI x2), some (vI x3), some (vI x4), some (vI x5), some (vI x6), some (vI 0)] [] M Q)) :
    V X (d + 1) 263 29 [some (vR 100 0), some (vI x1), some (vI x2), some (vI x3), some (vI x4), some (vI x5), some (vI x6), none] [] M Q := wpn_sound (cuts := [(6, [true, true, true, true, false, false, false, false]), (29, [true, true, true, true, true, true, true, false]), (45, [true, true, true, true, true, true, true, true])]) ok263 22 29 _ _ _ h
-- ClayBootsModel.spans, from 45
set_option maxRecDepth 100000 in
theorem w263_45 {X : Cx} {d : Nat} {M : Mem} {Q : Option Vl → Mem → Prop} {x1 x2 x3 x4 x5 x6 x7 : Int32}
    (h : inb 230 2129 ∧ ((M.1 101 0 (ix 230)) ≤ x7 → V X (d + 1) 263 29 [some (vR 100 0), some (vI x1), some (vI x2), some (vI x3), some (vI x4), some (vI x5), some (vI (x6 + 1)), none] [] M Q) ∧ (¬ (M.1 101 0 (ix 230)) ≤ x7 → (((x1 >>> (x6 &&& 31)) &&& 1) = 0 → V X (d + 1) 263 45 [some (vR 100 0), some (vI x1), some (vI x2), some (vI x3), some (vI x4), some (vI x5), some (vI x6), some (vI (x7 + 1))] [] M Q) ∧ (¬ ((x1 >>> (x6 &&& 31)) &&& 1) = 0 → (((x1 >>> (x7 &&& 31)) &&& 1) = 1 → V X (d + 1) 263 45 [some (vR 100 0), some (vI x1), some (vI x2), some (vI x3), some (vI x4), some (vI x5), some (vI x6), some (vI (x7 + 1))] [] M Q) ∧ (¬ ((x1 >>> (x7 &&& 31)) &&& 1) = 1 → ∃ (r1 : Int32) (M1 : Mem), CC X d 262 [vR 100 0, vI x6, vI x7] M (some (vI r1)) M1 ∧ (r1 < x4 → ∃ (r2 : Int32) (M2 : Mem), CC X d 262 [vR 100 0, vI x6, vI x7] M1 (some (vI r2)) M2 ∧ V X (d + 1) 263 45 [some (vR 100 0), some (vI x1), some (vI x2), some (vI x3), some (vI r2), some (vI x7), some (vI x6), some (vI (x7 + 1))] [] M2 Q) ∧ (¬ r1 < x4 → V X (d + 1) 263 45 [some (vR 100 0), some (vI x1), some (vI x2), some (vI x3), some (vI x4), some (vI x5), some (vI x6), some (vI (x7 + 1))] [] M1 Q))))) :
    V X (d + 1) 263 45 [some (vR 100 0), some (vI x1), some (vI x2), some (vI x3), some (vI x4), some (vI x5), some (vI x6), some (vI x7)] [] M Q := wpn_sound (cuts := [(6, [true, true, true, true, false, false, false, false]), (29, [true, true, true, true, true, true, true, false]), (45, [true, true, true, true, true, true, true, true])]) ok263 35 45 _ _ _ h
theorem e263 {X : Cx} {d : Nat} {M M2 : Mem} {r : Int32} (h : V X d 263 0 [some (vR 100 0), none, none, none, none, none, none, none] [] M (fun r' M' => r' = (some (vI r)) ∧ M' = M2)) : CC X d 263 [vR 100 0] M (some (vI r)) M2 := CC_of (by decide) trivial (Nat.le_of_ble_eq_true rfl) (by simp [c1]) h
-- ClayBootsModel.shortest, from 0
set_option maxRecDepth 100000 in
theorem w264_0 {X : Cx} {d : Nat} {M : Mem} {Q : Option Vl → Mem → Prop} {p0 p1 : Int32}
    (h : V X (d + 1) 264 2 [some (vR 100 0), some (vI p0), some (vI p1), some (vI 0), none, none] [] M Q) :
    V X (d + 1) 264 0 [some (vR 100 0), some (vI p0), some (vI p1), none, none, none] [] M Q := wpn_sound (cuts := [(2, [true, true, true, true, false, false]), (34, [true, false, true, true, false, false]), (43, [true, false, true, true, true, false]), (59, [true, false, true, true, true, true])]) ok264 3 0 _ _ _ h
-- ClayBootsModel.shortest, from 2
set_option maxRecDepth 100000 in
theorem w264_2 {X : Cx} {d : Nat} {M : Mem} {Q : Option Vl → Mem → Prop} {x1 x2 x3 : Int32}
    (h : (8 ≤ x3 → V X (d + 1) 264 34 [some (vR 100 0), none, some (vI x2), some (vI 0), none, none] [] M Q) ∧ (¬ 8 ≤ x3 → (¬ x3 = x1 → inb x3 8 ∧ ∀ M1, M1 = st M 117 0 (ix x3) 100000000 → V X (d + 1) 264 2 [some (vR 100 0), some (vI x1), some (vI x2), some (vI (x3 + 1)), none, none] [] M1 Q) ∧ (x3 = x1 → inb x3 8 ∧ ∀ M2, M2 = st M 117 0 (ix x3) 0 → V X (d + 1) 264 2 [some (vR 100 0), some (vI x1), some (vI x2), some (vI (x3 + 1)), none, none] [] M2 Q))) :
    V X (d + 1) 264 2 [some (vR 100 0), some (vI x1), some (vI x2), some (vI x3), none, none] [] M Q := wpn_sound (cuts := [(2, [true, true, true, true, false, false]), (34, [true, false, true, true, false, false]), (43, [true, false, true, true, true, false]), (59, [true, false, true, true, true, true])]) ok264 15 2 _ _ _ h
-- ClayBootsModel.shortest, from 34
set_option maxRecDepth 100000 in
theorem w264_34 {X : Cx} {d : Nat} {M : Mem} {Q : Option Vl → Mem → Prop} {x2 x3 : Int32}
    (h : (8 ≤ x3 → inb x2 8 ∧ ((M.1 117 0 (ix x2)) < 100000000 → inb x2 8 ∧ Q (some (vI (M.1 117 0 (ix x2)))) M) ∧ (¬ (M.1 117 0 (ix x2)) < 100000000 → Q (some (vI (-1))) M)) ∧ (¬ 8 ≤ x3 → V X (d + 1) 264 43 [some (vR 100 0), none, some (vI x2), some (vI x3), some (vI 0), none] [] M Q)) :
    V X (d + 1) 264 34 [some (vR 100 0), none, some (vI x2), some (vI x3), none, none] [] M Q := wpn_sound (cuts := [(2, [true, true, true, true, false, false]), (34, [true, false, true, true, false, false]), (43, [true, false, true, true, true, false]), (59, [true, false, true, true, true, true])]) ok264 15 34 _ _ _ h
-- ClayBootsModel.shortest, from 43
set_option maxRecDepth 100000 in
theorem w264_43 {X : Cx} {d : Nat} {M : Mem} {Q : Option Vl → Mem → Prop} {x2 x3 x4 : Int32}
    (h : inb 230 2129 ∧ ((M.1 101 0 (ix 230)) ≤ x4 → V X (d + 1) 264 34 [some (vR 100 0), none, some (vI x2), some (vI (x3 + 1)), none, none] [] M Q) ∧ (¬ (M.1 101 0 (ix 230)) ≤ x4 → V X (d + 1) 264 59 [some (vR 100 0), none, some (vI x2), some (vI x3), some (vI x4), some (vI 0)] [] M Q)) :
    V X (d + 1) 264 43 [some (vR 100 0), none, some (vI x2), some (vI x3), some (vI x4), none] [] M Q := wpn_sound (cuts := [(2, [true, true, true, true, false, false]), (34, [true, false, true, true, false, false]), (43, [true, false, true, true, true, false]), (59, [true, false, true, true, true, true])]) ok264 9 43 _ _ _ h
-- ClayBootsModel.shortest, from 59
set_option maxRecDepth 100000 in
theorem w264_59 {X : Cx} {d : Nat} {M : Mem} {Q : Option Vl → Mem → Prop} {x2 x3 x4 x5 : Int32}
    (h : inb 230 2129 ∧ ((M.1 101 0 (ix 230)) ≤ x5 → V X (d + 1) 264 43 [some (vR 100 0), none, some (vI x2), some (vI x3), some (vI (x4 + 1)), none] [] M Q) ∧ (¬ (M.1 101 0 (ix 230)) ≤ x5 → inb x5 8 ∧ inb x4 8 ∧ ∃ (r1 : Int32) (M1 : Mem), CC X d 262 [vR 100 0, vI x4, vI x5] M (some (vI r1)) M1 ∧ ∃ (r2 : Int32) (M2 : Mem), CC X d 152 [vI (M.1 117 0 (ix x5)), vI ((M.1 117 0 (ix x4)) + r1)] M1 (some (vI r2)) M2 ∧ inb x5 8 ∧ ∀ M3, M3 = st M2 117 0 (ix x5) r2 → V X (d + 1) 264 59 [some (vR 100 0), none, some (vI x2), some (vI x3), some (vI x4), some (vI (x5 + 1))] [] M3 Q)) :
    V X (d + 1) 264 59 [some (vR 100 0), none, some (vI x2), some (vI x3), some (vI x4), some (vI x5)] [] M Q := wpn_sound (cuts := [(2, [true, true, true, true, false, false]), (34, [true, false, true, true, false, false]), (43, [true, false, true, true, true, false]), (59, [true, false, true, true, true, true])]) ok264 27 59 _ _ _ h
theorem e264 {X : Cx} {d : Nat} {M M2 : Mem} {p0 p1 : Int32} {r : Int32} (h : V X d 264 0 [some (vR 100 0), some (vI p0), some (vI p1), none, none, none] [] M (fun r' M' => r' = (some (vI r)) ∧ M' = M2)) : CC X d 264 [vR 100 0, vI p0, vI p1] M (some (vI r)) M2 := CC_of (by decide) trivial (Nat.le_of_ble_eq_true rfl) (by simp [c1]) h
-- ClayBootsModel.span, from 0
set_option maxRecDepth 100000 in
theorem w265_0 {X : Cx} {d : Nat} {M : Mem} {Q : Option Vl → Mem → Prop} {p0 p1 : Int32}
    (h : (¬ p0 = (-1) → ∃ (r1 : Int32) (M1 : Mem), CC X d 156 [vR 100 0, vI p0] M (some (vI r1)) M1 ∧ (r1 = 0 → Q (some (vI (-1))) M1) ∧ (¬ r1 = 0 → ∃ (r2 : Int32) (M2 : Mem), CC X d 156 [vR 100 0, vI p1] M1 (some (vI r2)) M2 ∧ (r2 = 0 → Q (some (vI (-1))) M2) ∧ (¬ r2 = 0 → ∃ (r3 : Int32) (M3 : Mem), CC X d 264 [vR 100 0, vI p0, vI p1] M2 (some (vI r3)) M3 ∧ Q (some (vI r3)) M3))) ∧ (p0 = (-1) → ∃ (r4 : Int32) (M4 : Mem), CC X d 263 [vR 100 0] M (some (vI r4)) M4 ∧ Q (some (vI r4)) M4)) :
    V X (d + 1) 265 0 [some (vR 100 0), some (vI p0), some (vI p1)] [] M Q := wpn_sound (cuts := []) ok265 18 0 _ _ _ h
theorem e265 {X : Cx} {d : Nat} {M M2 : Mem} {p0 p1 : Int32} {r : Int32} (h : V X d 265 0 [some (vR 100 0), some (vI p0), some (vI p1)] [] M (fun r' M' => r' = (some (vI r)) ∧ M' = M2)) : CC X d 265 [vR 100 0, vI p0, vI p1] M (some (vI r)) M2 := CC_of (by decide) trivial (Nat.le_of_ble_eq_true rfl) (by simp [c1]) h
-- ClayBootsModel.later, from 0
set_option maxRecDepth 100000 in
theorem w266_0 {X : Cx} {d : Nat} {M : Mem} {Q : Option Vl → Mem → Prop} {p0 : Int32}
    (h : ∃ (r1 : Int32) (M1 : Mem), CC X d 151 [vI p0, vI 0, vI 2000000000] M (some (vI r1)) M1 ∧ (¬ r1 = 0 → inb 4 2129 ∧ V X (d + 1) 266 30 [none, none, some (vI (M1.1 101 0 (ix 4))), some (vI 1664525), some (vI 1013904223), some (vI p0)] [] M1 Q) ∧ (r1 = 0 → Q (some (vI 0)) M1)) :
    V X (d + 1) 266 0 [some (vR 100 0), some (vI p0), none, none, none, none] [] M Q := wpn_sound (cuts := [(30, [false, false, true, true, true, true])]) ok266 17 0 _ _ _ h
-- ClayBootsModel.later, from 30
set_option maxRecDepth 100000 in
theorem w266_30 {X : Cx} {d : Nat} {M : Mem} {Q : Option Vl → Mem → Prop} {x2 x3 x4 x5 : Int32}
    (h : (x5 ≤ 0 → Q (some (vI x2)) M) ∧ (¬ x5 ≤ 0 → ¬ (2 : Int32) = 0 ∧ (¬ (x5 % 2) = 1 → ¬ (2 : Int32) = 0 ∧ V X (d + 1) 266 30 [none, none, some (vI x2), some (vI (x3 * x3)), some (vI ((x4 * x3) + x4)), some (vI (x5 / 2))] [] M Q) ∧ ((x5 % 2) = 1 → ¬ (2 : Int32) = 0 ∧ V X (d + 1) 266 30 [none, none, some (vI ((x2 * x3) + x4)), some (vI (x3 * x3)), some (vI ((x4 * x3) + x4)), some (vI (x5 / 2))] [] M Q))) :
    V X (d + 1) 266 30 [none, none, some (vI x2), some (vI x3), some (vI x4), some (vI x5)] [] M Q := wpn_sound (cuts := [(30, [false, false, true, true, true, true])]) ok266 29 30 _ _ _ h
theorem e266 {X : Cx} {d : Nat} {M M2 : Mem} {p0 : Int32} {r : Int32} (h : V X d 266 0 [some (vR 100 0), some (vI p0), none, none, none, none] [] M (fun r' M' => r' = (some (vI r)) ∧ M' = M2)) : CC X d 266 [vR 100 0, vI p0] M (some (vI r)) M2 := CC_of (by decide) trivial (Nat.le_of_ble_eq_true rfl) (by simp [c1]) h
-- ClayBootsModel.first, from 0
set_option maxRecDepth 100000 in
theorem w267_0 {X : Cx} {d : Nat} {M : Mem} {Q : Option Vl → Mem → Prop} {p0 p1 : Int32}
    (h : ∃ (r1 : Int32) (M1 : Mem), CC X d 151 [vI p0, vI 2, vI 1000] M (some (vI r1)) M1 ∧ (r1 = 0 → Q (some (vI (-1))) M1) ∧ (¬ r1 = 0 → ∃ (r2 : Int32) (M2 : Mem), CC X d 151 [vI p1, vI 1, vI p0] M1 (some (vI r2)) M2 ∧ (¬ r2 = 0 → inb 4 2129 ∧ V X (d + 1) 267 35 [some (vR 100 0), some (vI p0), some (vI p1), some (vI (M2.1 101 0 (ix 4))), some (vI 0), some (vI 0)] [] M2 Q) ∧ (r2 = 0 → Q (some (vI (-1))) M2))) :
    V X (d + 1) 267 0 [some (vR 100 0), some (vI p0), some (vI p1), none, none, none] [] M Q := wpn_sound (cuts := [(35, [true, true, true, true, true, true])]) ok267 20 0 _ _ _ h
-- ClayBootsModel.first, from 35
set_option maxRecDepth 100000 in
theorem w267_35 {X : Cx} {d : Nat} {M : Mem} {Q : Option Vl → Mem → Prop} {x1 x2 x3 x4 x5 : Int32}
    (h : (999 ≤ x4 → inb 4 2129 ∧ ∀ M1, M1 = st M 101 0 (ix 4) x3 → (x5 = 0 → Q (some (vI (-1))) M1) ∧ (¬ x5 = 0 → Q (some (vI x4)) M1)) ∧ (¬ 999 ≤ x4 → (¬ x5 = 0 → inb 4 2129 ∧ ∀ M2, M2 = st M 101 0 (ix 4) x3 → (x5 = 0 → Q (some (vI (-1))) M2) ∧ (¬ x5 = 0 → Q (some (vI x4)) M2)) ∧ (x5 = 0 → ∃ (r1 : Int32) (M3 : Mem), CC X d 161 [vR 100 0, vI x1] M (some (vI r1)) M3 ∧ (x2 ≤ r1 → V X (d + 1) 267 35 [some (vR 100 0), some (vI x1), some (vI x2), some (vI x3), some (vI (x4 + 1)), some (vI 0)] [] M3 Q) ∧ (¬ x2 ≤ r1 → V X (d + 1) 267 35 [some (vR 100 0), some (vI x1), some (vI x2), some (vI x3), some (vI (x4 + 1)), some (vI 1)] [] M3 Q)))) :
    V X (d + 1) 267 35 [some (vR 100 0), some (vI x1), some (vI x2), some (vI x3), some (vI x4), some (vI x5)] [] M Q := wpn_sound (cuts := [(35, [true, true, true, true, true, true])]) ok267 16 35 _ _ _ h
theorem e267 {X : Cx} {d : Nat} {M M2 : Mem} {p0 p1 : Int32} {r : Int32} (h : V X d 267 0 [some (vR 100 0), some (vI p0), some (vI p1), none, none, none] [] M (fun r' M' => r' = (some (vI r)) ∧ M' = M2)) : CC X d 267 [vR 100 0, vI p0, vI p1] M (some (vI r)) M2 := CC_of (by decide) trivial (Nat.le_of_ble_eq_true rfl) (by simp [c1]) h
-- ClayBootsModel.worn, from 0
set_option maxRecDepth 100000 in
theorem w268_0 {X : Cx} {d : Nat} {M : Mem} {Q : Option Vl → Mem → Prop} {p0 : Int32}
    (h : (¬ p0 = (-1) → ∃ (r1 : Int32) (M1 : Mem), CC X d 151 [vI p0, vI 0, vI 99] M (some (vI r1)) M1 ∧ (r1 = 0 → Q (some (vI (-1))) M1) ∧ (¬ r1 = 0 → inb 240 2129 ∧ (¬ (M1.1 101 0 (ix 240)) = 12 → inb 240 2129 ∧ inb (633 + (M1.1 101 0 (ix 240))) 2129 ∧ ∀ M2, M2 = st M1 101 0 (ix (633 + (M1.1 101 0 (ix 240)))) p0 → inb 240 2129 ∧ inb 240 2129 ∧ ∀ M3, M3 = st M2 101 0 (ix 240) ((M2.1 101 0 (ix 240)) + 1) → inb 240 2129 ∧ Q (some (vI (M3.1 101 0 (ix 240)))) M3) ∧ ((M1.1 101 0 (ix 240)) = 12 → Q (some (vI (-1))) M1))) ∧ (p0 = (-1) → inb 240 2129 ∧ ∀ M4, M4 = st M 101 0 (ix 240) 0 → Q (some (vI 0)) M4)) :
    V X (d + 1) 268 0 [some (vR 100 0), some (vI p0)] [] M Q := wpn_sound (cuts := []) ok268 38 0 _ _ _ h
theorem e268 {X : Cx} {d : Nat} {M M2 : Mem} {p0 : Int32} {r : Int32} (h : V X d 268 0 [some (vR 100 0), some (vI p0)] [] M (fun r' M' => r' = (some (vI r)) ∧ M' = M2)) : CC X d 268 [vR 100 0, vI p0] M (some (vI r)) M2 := CC_of (by decide) trivial (Nat.le_of_ble_eq_true rfl) (by simp [c1]) h
-- ClayBootsModel.laysRows, from 0
set_option maxRecDepth 100000 in
theorem w269_0 {X : Cx} {d : Nat} {M : Mem} {Q : Option Vl → Mem → Prop}
    (h : V X (d + 1) 269 2 [some (vR 100 0), some (vI 0), none] [] M Q) :
    V X (d + 1) 269 0 [some (vR 100 0), none, none] [] M Q := wpn_sound (cuts := [(2, [true, true, false]), (30, [true, true, true])]) ok269 3 0 _ _ _ h
-- ClayBootsModel.laysRows, from 2
set_option maxRecDepth 100000 in
theorem w269_2 {X : Cx} {d : Nat} {M : Mem} {Q : Option Vl → Mem → Prop} {x1 : Int32}
    (h : inb 240 2129 ∧ ((M.1 101 0 (ix 240)) ≤ x1 → Q (none) M) ∧ (¬ (M.1 101 0 (ix 240)) ≤ x1 → inb x1 12 ∧ ∀ M1, M1 = st M 118 0 (ix x1) 1 → inb x1 12 ∧ ∀ M2, M2 = st M1 119 0 (ix x1) 1 → V X (d + 1) 269 30 [some (vR 100 0), some (vI x1), some (vI 0)] [] M2 Q)) :
    V X (d + 1) 269 2 [some (vR 100 0), some (vI x1), none] [] M Q := wpn_sound (cuts := [(2, [true, true, false]), (30, [true, true, true])]) ok269 19 2 _ _ _ h
-- ClayBootsModel.laysRows, from 30
set_option maxRecDepth 100000 in
theorem w269_30 {X : Cx} {d : Nat} {M : Mem} {Q : Option Vl → Mem → Prop} {x1 x2 : Int32}
    (h : (x1 ≤ x2 → V X (d + 1) 269 2 [some (vR 100 0), some (vI (x1 + 1)), none] [] M Q) ∧ (¬ x1 ≤ x2 → inb (633 + x2) 2129 ∧ inb (633 + x1) 2129 ∧ ((M.1 101 0 (ix (633 + x1))) ≤ (M.1 101 0 (ix (633 + x2))) → V X (d + 1) 269 30 [some (vR 100 0), some (vI x1), some (vI (x2 + 1))] [] M Q) ∧ (¬ (M.1 101 0 (ix (633 + x1))) ≤ (M.1 101 0 (ix (633 + x2))) → inb x2 12 ∧ inb x1 12 ∧ ((M.1 118 0 (ix x1)) ≤ ((M.1 118 0 (ix x2)) + 1) → inb x2 12 ∧ inb x1 12 ∧ (((M.1 118 0 (ix x2)) + 1) ≤ (M.1 118 0 (ix x1)) → inb x1 12 ∧ inb x2 12 ∧ inb x1 12 ∧ ∀ M1, M1 = st M 119 0 (ix x1) ((M.1 119 0 (ix x1)) + (M.1 119 0 (ix x2))) → inb x2 12 ∧ inb x1 12 ∧ ∀ M2, M2 = st M1 118 0 (ix x1) ((M1.1 118 0 (ix x2)) + 1) → V X (d + 1) 269 30 [some (vR 100 0), some (vI x1), some (vI (x2 + 1))] [] M2 Q) ∧ (¬ ((M.1 118 0 (ix x2)) + 1) ≤ (M.1 118 0 (ix x1)) → inb x2 12 ∧ inb x1 12 ∧ ∀ M3, M3 = st M 119 0 (ix x1) (M.1 119 0 (ix x2)) → inb x2 12 ∧ inb x1 12 ∧ ∀ M4, M4 = st M3 118 0 (ix x1) ((M3.1 118 0 (ix x2)) + 1) → V X (d + 1) 269 30 [some (vR 100 0), some (vI x1), some (vI (x2 + 1))] [] M4 Q)) ∧ (¬ (M.1 118 0 (ix x1)) ≤ ((M.1 118 0 (ix x2)) + 1) → V X (d + 1) 269 30 [some (vR 100 0), some (vI x1), some (vI (x2 + 1))] [] M Q)))) :
    V X (d + 1) 269 30 [some (vR 100 0), some (vI x1), some (vI x2)] [] M Q := wpn_sound (cuts := [(2, [true, true, false]), (30, [true, true, true])]) ok269 64 30 _ _ _ h
theorem e269 {X : Cx} {d : Nat} {M M2 : Mem} (h : V X d 269 0 [some (vR 100 0), none, none] [] M (fun r' M' => r' = none ∧ M' = M2)) : CC X d 269 [vR 100 0] M none M2 := CC_of (by decide) trivial (Nat.le_of_ble_eq_true rfl) (by simp [c1]) h
-- ClayBootsModel.row, from 0
set_option maxRecDepth 100000 in
theorem w270_0 {X : Cx} {d : Nat} {M : Mem} {Q : Option Vl → Mem → Prop} {p0 : Int32}
    (h : ∃ (r1 : Int32) (M1 : Mem), CC X d 151 [vI p0, vI 0, vI 1] M (some (vI r1)) M1 ∧ (¬ r1 = 0 → ∃ (M2 : Mem), CC X d 269 [vR 100 0] M1 none M2 ∧ V X (d + 1) 270 22 [some (vR 100 0), some (vI p0), some (vI 0), some (vI 1), some (vI 0)] [] M2 Q) ∧ (r1 = 0 → Q (some (vI (-1))) M1)) :
    V X (d + 1) 270 0 [some (vR 100 0), some (vI p0), none, none, none] [] M Q := wpn_sound (cuts := [(22, [true, true, true, true, true])]) ok270 14 0 _ _ _ h
-- ClayBootsModel.row, from 22
set_option maxRecDepth 100000 in
theorem w270_22 {X : Cx} {d : Nat} {M : Mem} {Q : Option Vl → Mem → Prop} {x1 x2 x3 x4 : Int32}
    (h : inb 240 2129 ∧ ((M.1 101 0 (ix 240)) ≤ x4 → (¬ x1 = 0 → Q (some (vI x3)) M) ∧ (x1 = 0 → Q (some (vI x2)) M)) ∧ (¬ (M.1 101 0 (ix 240)) ≤ x4 → inb x4 12 ∧ (x2 ≤ (M.1 118 0 (ix x4)) → inb x4 12 ∧ ((M.1 118 0 (ix x4)) ≤ x2 → inb x4 12 ∧ inb x4 12 ∧ V X (d + 1) 270 22 [some (vR 100 0), some (vI x1), some (vI (M.1 118 0 (ix x4))), some (vI (x3 + (M.1 119 0 (ix x4)))), some (vI (x4 + 1))] [] M Q) ∧ (¬ (M.1 118 0 (ix x4)) ≤ x2 → inb x4 12 ∧ inb x4 12 ∧ V X (d + 1) 270 22 [some (vR 100 0), some (vI x1), some (vI (M.1 118 0 (ix x4))), some (vI (M.1 119 0 (ix x4))), some (vI (x4 + 1))] [] M Q)) ∧ (¬ x2 ≤ (M.1 118 0 (ix x4)) → V X (d + 1) 270 22 [some (vR 100 0), some (vI x1), some (vI x2), some (vI x3), some (vI (x4 + 1))] [] M Q))) :
    V X (d + 1) 270 22 [some (vR 100 0), some (vI x1), some (vI x2), some (vI x3), some (vI x4)] [] M Q := wpn_sound (cuts := [(22, [true, true, true, true, true])]) ok270 33 22 _ _ _ h
theorem e270 {X : Cx} {d : Nat} {M M2 : Mem} {p0 : Int32} {r : Int32} (h : V X d 270 0 [some (vR 100 0), some (vI p0), none, none, none] [] M (fun r' M' => r' = (some (vI r)) ∧ M' = M2)) : CC X d 270 [vR 100 0, vI p0] M (some (vI r)) M2 := CC_of (by decide) trivial (Nat.le_of_ble_eq_true rfl) (by simp [c1]) h
-- ClayBootsModel.game, from 0
set_option maxRecDepth 100000 in
theorem w271_0 {X : Cx} {d : Nat} {M : Mem} {Q : Option Vl → Mem → Prop} {p0 : Int32}
    (h : ∃ (r1 : Int32) (M1 : Mem), CC X d 151 [vI p0, vI 0, vI 1] M (some (vI r1)) M1 ∧ (¬ r1 = 0 → V X (d + 1) 271 15 [some (vR 100 0), some (vI p0), some (vI 0), some (vI 0), none, none] [] M1 Q) ∧ (r1 = 0 → Q (some (vI (-1))) M1)) :
    V X (d + 1) 271 0 [some (vR 100 0), some (vI p0), none, none, none, none] [] M Q := wpn_sound (cuts := [(15, [true, true, true, true, false, false]), (45, [true, true, true, true, false, false]), (67, [true, true, true, true, true, true])]) ok271 10 0 _ _ _ h
-- ClayBootsModel.game, from 15
set_option maxRecDepth 100000 in
theorem w271_15 {X : Cx} {d : Nat} {M : Mem} {Q : Option Vl → Mem → Prop} {x1 x2 x3 : Int32}
    (h : inb 230 2129 ∧ ((M.1 101 0 (ix 230)) ≤ x3 → V X (d + 1) 271 45 [some (vR 100 0), some (vI x1), some (vI x2), some (vI 0), none, none] [] M Q) ∧ (¬ (M.1 101 0 (ix 230)) ≤ x3 → ∃ (r1 : Int32) (M1 : Mem), CC X d 231 [vR 100 0, vI x3] M (some (vI r1)) M1 ∧ ¬ (4 : Int32) = 0 ∧ V X (d + 1) 271 15 [some (vR 100 0), some (vI x1), some (vI (x2 ^^^ (r1 % 4))), some (vI (x3 + 1)), none, none] [] M1 Q)) :
    V X (d + 1) 271 15 [some (vR 100 0), some (vI x1), some (vI x2), some (vI x3), none, none] [] M Q := wpn_sound (cuts := [(15, [true, true, true, true, false, false]), (45, [true, true, true, true, false, false]), (67, [true, true, true, true, true, true])]) ok271 17 15 _ _ _ h
-- ClayBootsModel.game, from 45
set_option maxRecDepth 100000 in
theorem w271_45 {X : Cx} {d : Nat} {M : Mem} {Q : Option Vl → Mem → Prop} {x1 x2 x3 : Int32}
    (h : inb 230 2129 ∧ ((M.1 101 0 (ix 230)) ≤ x3 → Q (some (vI (-1))) M) ∧ (¬ (M.1 101 0 (ix 230)) ≤ x3 → ∃ (r1 : Int32) (M1 : Mem), CC X d 231 [vR 100 0, vI x3] M (some (vI r1)) M1 ∧ V X (d + 1) 271 67 [some (vR 100 0), some (vI x1), some (vI x2), some (vI x3), some (vI r1), some (vI 1)] [] M1 Q)) :
    V X (d + 1) 271 45 [some (vR 100 0), some (vI x1), some (vI x2), some (vI x3), none, none] [] M Q := wpn_sound (cuts := [(15, [true, true, true, true, false, false]), (45, [true, true, true, true, false, false]), (67, [true, true, true, true, true, true])]) ok271 13 45 _ _ _ h
-- ClayBootsModel.game, from 67
set_option maxRecDepth 100000 in
theorem w271_67 {X : Cx} {d : Nat} {M : Mem} {Q : Option Vl → Mem → Prop} {x1 x2 x3 x4 x5 : Int32}
    (h : (3 < x5 → V X (d + 1) 271 45 [some (vR 100 0), some (vI x1), some (vI x2), some (vI (x3 + 1)), none, none] [] M Q) ∧ (¬ 3 < x5 → (x4 < x5 → V X (d + 1) 271 45 [some (vR 100 0), some (vI x1), some (vI x2), some (vI (x3 + 1)), none, none] [] M Q) ∧ (¬ x4 < x5 → ¬ (4 : Int32) = 0 ∧ ¬ (4 : Int32) = 0 ∧ (¬ (x2 ^^^ (x4 % 4)) = ((x4 - x5) % 4) → V X (d + 1) 271 67 [some (vR 100 0), some (vI x1), some (vI x2), some (vI x3), some (vI x4), some (vI (x5 + 1))] [] M Q) ∧ ((x2 ^^^ (x4 % 4)) = ((x4 - x5) % 4) → (¬ x1 = 0 → Q (some (vI x5)) M) ∧ (x1 = 0 → Q (some (vI x3)) M))))) :
    V X (d + 1) 271 67 [some (vR 100 0), some (vI x1), some (vI x2), some (vI x3), some (vI x4), some (vI x5)] [] M Q := wpn_sound (cuts := [(15, [true, true, true, true, false, false]), (45, [true, true, true, true, false, false]), (67, [true, true, true, true, true, true])]) ok271 23 67 _ _ _ h
theorem e271 {X : Cx} {d : Nat} {M M2 : Mem} {p0 : Int32} {r : Int32} (h : V X d 271 0 [some (vR 100 0), some (vI p0), none, none, none, none] [] M (fun r' M' => r' = (some (vI r)) ∧ M' = M2)) : CC X d 271 [vR 100 0, vI p0] M (some (vI r)) M2 := CC_of (by decide) trivial (Nat.le_of_ble_eq_true rfl) (by simp [c1]) h
-- ClayBootsModel.image, from 0
set_option maxRecDepth 100000 in
theorem w272_0 {X : Cx} {d : Nat} {M : Mem} {Q : Option Vl → Mem → Prop} {p0 : Int32}
    (h : (¬ p0 = 0 → V X (d + 1) 272 15 [some (vR 100 0), some (vI p0), some (vI 0)] [] M Q) ∧ (p0 = 0 → (¬ (M.1 100 0 5) = 0 → V X (d + 1) 272 15 [some (vR 100 0), some (vI p0), some (vI 0)] [] M Q) ∧ ((M.1 100 0 5) = 0 → isB 0 ∧ Q (some (vI 0)) M))) :
    V X (d + 1) 272 0 [some (vR 100 0), some (vI p0), none] [] M Q := wpn_sound (cuts := [(15, [true, true, true])]) ok272 8 0 _ _ _ h
-- ClayBootsModel.image, from 15
set_option maxRecDepth 100000 in
theorem w272_15 {X : Cx} {d : Nat} {M : Mem} {Q : Option Vl → Mem → Prop} {x1 x2 : Int32}
    (h : (2129 ≤ x2 → (¬ x1 = 0 → isB 1 ∧ ∀ M1, M1 = st M 100 0 5 1 → isB 1 ∧ Q (some (vI 1)) M1) ∧ (x1 = 0 → ∃ (M2 : Mem), CC X d 159 [vR 100 0] M none M2 ∧ isB 1 ∧ ∀ M3, M3 = st M2 100 0 5 1 → isB 1 ∧ Q (some (vI 1)) M3)) ∧ (¬ 2129 ≤ x2 → (x1 = 0 → inb x2 2129 ∧ inb x2 2129 ∧ ∀ M4, M4 = st M 101 0 (ix x2) (M.1 102 0 (ix x2)) → V X (d + 1) 272 15 [some (vR 100 0), some (vI x1), some (vI (x2 + 1))] [] M4 Q) ∧ (¬ x1 = 0 → inb x2 2129 ∧ inb x2 2129 ∧ ∀ M5, M5 = st M 102 0 (ix x2) (M.1 101 0 (ix x2)) → V X (d + 1) 272 15 [some (vR 100 0), some (vI x1), some (vI (x2 + 1))] [] M5 Q))) :
    V X (d + 1) 272 15 [some (vR 100 0), some (vI x1), some (vI x2)] [] M Q := wpn_sound (cuts := [(15, [true, true, true])]) ok272 17 15 _ _ _ h
theorem e272 {X : Cx} {d : Nat} {M M2 : Mem} {p0 : Int32} {r : Int32} (h : V X d 272 0 [some (vR 100 0), some (vI p0), none] [] M (fun r' M' => r' = (some (vI r)) ∧ M' = M2)) : CC X d 272 [vR 100 0, vI p0] M (some (vI r)) M2 := CC_of (by decide) trivial (Nat.le_of_ble_eq_true rfl) (by simp [c1]) h
-- ClayBootsModel.look, from 0
set_option maxRecDepth 100000 in
theorem w273_0 {X : Cx} {d : Nat} {M : Mem} {Q : Option Vl → Mem → Prop} {p0 : Int32}
    (h : (p0 = 0 → inb 229 2129 ∧ Q (some (vI (M.1 101 0 (ix 229)))) M) ∧ (¬ p0 = 0 → (p0 = 1 → inb 230 2129 ∧ Q (some (vI (M.1 101 0 (ix 230)))) M) ∧ (¬ p0 = 1 → (p0 = 2 → inb 231 2129 ∧ Q (some (vI (M.1 101 0 (ix 231)))) M) ∧ (¬ p0 = 2 → (p0 = 3 → inb 0 2129 ∧ Q (some (vI (M.1 101 0 (ix 0)))) M) ∧ (¬ p0 = 3 → (p0 = 4 → inb 1 2129 ∧ Q (some (vI (M.1 101 0 (ix 1)))) M) ∧ (¬ p0 = 4 → (p0 = 5 → inb 2 2129 ∧ Q (some (vI (M.1 101 0 (ix 2)))) M) ∧ (¬ p0 = 5 → (p0 = 6 → inb 3 2129 ∧ Q (some (vI (M.1 101 0 (ix 3)))) M) ∧ (¬ p0 = 6 → (p0 = 7 → inb 6 2129 ∧ Q (some (vI (M.1 101 0 (ix 6)))) M) ∧ (¬ p0 = 7 → (p0 = 8 → inb 5 2129 ∧ Q (some (vI (M.1 101 0 (ix 5)))) M) ∧ (¬ p0 = 8 → (p0 = 9 → inb 4 2129 ∧ Q (some (vI (M.1 101 0 (ix 4)))) M) ∧ (¬ p0 = 9 → (p0 = 10 → inb 232 2129 ∧ Q (some (vI (M.1 101 0 (ix 232)))) M) ∧ (¬ p0 = 10 → (p0 = 11 → inb 233 2129 ∧ Q (some (vI (M.1 101 0 (ix 233)))) M) ∧ (¬ p0 = 11 → (p0 = 12 → inb 234 2129 ∧ Q (some (vI (M.1 101 0 (ix 234)))) M) ∧ (¬ p0 = 12 → (p0 = 13 → inb 235 2129 ∧ Q (some (vI (M.1 101 0 (ix 235)))) M) ∧ (¬ p0 = 13 → (p0 = 14 → Q (some (vI (M.1 100 0 4))) M) ∧ (¬ p0 = 14 → Q (some (vI (-1))) M)))))))))))))))) :
    V X (d + 1) 273 0 [some (vR 100 0), some (vI p0)] [] M Q := wpn_sound (cuts := []) ok273 8 0 _ _ _ h
theorem e273 {X : Cx} {d : Nat} {M M2 : Mem} {p0 : Int32} {r : Int32} (h : V X d 273 0 [some (vR 100 0), some (vI p0)] [] M (fun r' M' => r' = (some (vI r)) ∧ M' = M2)) : CC X d 273 [vR 100 0, vI p0] M (some (vI r)) M2 := CC_of (by decide) trivial (Nat.le_of_ble_eq_true rfl) (by simp [c1]) h
-- java/lang/Integer.bitCount, from 0
set_option maxRecDepth 100000 in
theorem w274_0 {X : Cx} {d : Nat} {M : Mem} {Q : Option Vl → Mem → Prop} {p0 : Int32}
    (h : Q (some (vI ((((((((p0 - (((p0.toUInt32 >>> (Int32.toUInt32 1 &&& Int32.toUInt32 31)).toInt32) &&& 1431655765)) &&& 858993459) + ((((p0 - (((p0.toUInt32 >>> (Int32.toUInt32 1 &&& Int32.toUInt32 31)).toInt32) &&& 1431655765)).toUInt32 >>> (Int32.toUInt32 2 &&& Int32.toUInt32 31)).toInt32) &&& 858993459)) + (((((p0 - (((p0.toUInt32 >>> (Int32.toUInt32 1 &&& Int32.toUInt32 31)).toInt32) &&& 1431655765)) &&& 858993459) + ((((p0 - (((p0.toUInt32 >>> (Int32.toUInt32 1 &&& Int32.toUInt32 31)).toInt32) &&& 1431655765)).toUInt32 >>> (Int32.toUInt32 2 &&& Int32.toUInt32 31)).toInt32) &&& 858993459)).toUInt32 >>> (Int32.toUInt32 4 &&& Int32.toUInt32 31)).toInt32)) &&& 252645135) + (((((((p0 - (((p0.toUInt32 >>> (Int32.toUInt32 1 &&& Int32.toUInt32 31)).toInt32) &&& 1431655765)) &&& 858993459) + ((((p0 - (((p0.toUInt32 >>> (Int32.toUInt32 1 &&& Int32.toUInt32 31)).toInt32) &&& 1431655765)).toUInt32 >>> (Int32.toUInt32 2 &&& Int32.toUInt32 31)).toInt32) &&& 858993459)) + (((((p0 - (((p0.toUInt32 >>> (Int32.toUInt32 1 &&& Int32.toUInt32 31)).toInt32) &&& 1431655765)) &&& 858993459) + ((((p0 - (((p0.toUInt32 >>> (Int32.toUInt32 1 &&& Int32.toUInt32 31)).toInt32) &&& 1431655765)).toUInt32 >>> (Int32.toUInt32 2 &&& Int32.toUInt32 31)).toInt32) &&& 858993459)).toUInt32 >>> (Int32.toUInt32 4 &&& Int32.toUInt32 31)).toInt32)) &&& 252645135).toUInt32 >>> (Int32.toUInt32 8 &&& Int32.toUInt32 31)).toInt32)) + ((((((((p0 - (((p0.toUInt32 >>> (Int32.toUInt32 1 &&& Int32.toUInt32 31)).toInt32) &&& 1431655765)) &&& 858993459) + ((((p0 - (((p0.toUInt32 >>> (Int32.toUInt32 1 &&& Int32.toUInt32 31)).toInt32) &&& 1431655765)).toUInt32 >>> (Int32.toUInt32 2 &&& Int32.toUInt32 31)).toInt32) &&& 858993459)) + (((((p0 - (((p0.toUInt32 >>> (Int32.toUInt32 1 &&& Int32.toUInt32 31)).toInt32) &&& 1431655765)) &&& 858993459) + ((((p0 - (((p0.toUInt32 >>> (Int32.toUInt32 1 &&& Int32.toUInt32 31)).toInt32) &&& 1431655765)).toUInt32 >>> (Int32.toUInt32 2 &&& Int32.toUInt32 31)).toInt32) &&& 858993459)).toUInt32 >>> (Int32.toUInt32 4 &&& Int32.toUInt32 31)).toInt32)) &&& 252645135) + (((((((p0 - (((p0.toUInt32 >>> (Int32.toUInt32 1 &&& Int32.toUInt32 31)).toInt32) &&& 1431655765)) &&& 858993459) + ((((p0 - (((p0.toUInt32 >>> (Int32.toUInt32 1 &&& Int32.toUInt32 31)).toInt32) &&& 1431655765)).toUInt32 >>> (Int32.toUInt32 2 &&& Int32.toUInt32 31)).toInt32) &&& 858993459)) + (((((p0 - (((p0.toUInt32 >>> (Int32.toUInt32 1 &&& Int32.toUInt32 31)).toInt32) &&& 1431655765)) &&& 858993459) + ((((p0 - (((p0.toUInt32 >>> (Int32.toUInt32 1 &&& Int32.toUInt32 31)).toInt32) &&& 1431655765)).toUInt32 >>> (Int32.toUInt32 2 &&& Int32.toUInt32 31)).toInt32) &&& 858993459)).toUInt32 >>> (Int32.toUInt32 4 &&& Int32.toUInt32 31)).toInt32)) &&& 252645135).toUInt32 >>> (Int32.toUInt32 8 &&& Int32.toUInt32 31)).toInt32)).toUInt32 >>> (Int32.toUInt32 16 &&& Int32.toUInt32 31)).toInt32)) &&& 63))) M) :
    V X (d + 1) 274 0 [some (vI p0)] [] M Q := wpn_sound (cuts := []) ok274 43 0 _ _ _ h
theorem e274 {X : Cx} {d : Nat} {M M2 : Mem} {p0 : Int32} {r : Int32} (h : V X d 274 0 [some (vI p0)] [] M (fun r' M' => r' = (some (vI r)) ∧ M' = M2)) : CC X d 274 [vI p0] M (some (vI r)) M2 := CC_of (by decide) trivial (Nat.le_of_ble_eq_true rfl) (by simp [c1]) h
