-- ClayBoots.end, from 0
set_option maxRecDepth 100000 in
theorem w108_0 {X : Cx} {d : Nat} {M : Mem} {Q : Option Vl → Mem → Prop} {p0 : Int32}
    (h : (p0 < 0 → isB 0 ∧ Q (some (vI 0)) M) ∧ (¬ p0 < 0 → (p0 ≤ (M.1 3 0 7) → ∀ M1, M1 = st M 3 0 7 p0 → isB 1 ∧ Q (some (vI 1)) M1) ∧ (¬ p0 ≤ (M.1 3 0 7) → isB 0 ∧ Q (some (vI 0)) M))) :
    V X (d + 1) 108 0 [some (vR 2 0), some (vI p0)] [] M Q := wpn_sound (cuts := []) ok108 14 0 _ _ _ h
theorem e108 {X : Cx} {d : Nat} {M M2 : Mem} {p0 : Int32} {r : Int32} (h : V X d 108 0 [some (vR 2 0), some (vI p0)] [] M (fun r' M' => r' = (some (vI r)) ∧ M' = M2)) : CC X d 108 [vR 2 0, vI p0] M (some (vI r)) M2 := CC_of (by decide) trivial (Nat.le_of_ble_eq_true rfl) (by simp [c1]) h
-- ClayBoots.text, from 0
set_option maxRecDepth 100000 in
theorem w109_0 {X : Cx} {d : Nat} {M : Mem} {Q : Option Vl → Mem → Prop} {p0 : Int32}
    (h : ∃ (r1 : Int32) (M1 : Mem), CC X d 24 [vR 3 0, vI p0] M (some (vI r1)) M1 ∧ (¬ r1 = (-1) → (p0 = 0 → ∃ (M2 : Mem), CC X d 2 [vR 40 0, vR 40 1] M1 none M2 ∧ Q (some (vI r1)) M2) ∧ (¬ p0 = 0 → (p0 = 1 → ∃ (M3 : Mem), CC X d 12 [vR 50 0, vR 50 1] M1 none M3 ∧ ∃ (M4 : Mem), CC X d 10 [vR 8 0] M3 none M4 ∧ Q (some (vI r1)) M4) ∧ (¬ p0 = 1 → (p0 = 2 → ∃ (M5 : Mem), CC X d 13 [vR 50 0, vR 50 1] M1 none M5 ∧ ∃ (M6 : Mem), CC X d 10 [vR 8 0] M5 none M6 ∧ Q (some (vI r1)) M6) ∧ (¬ p0 = 2 → ∃ (M7 : Mem), CC X d 14 [vR 50 0, vR 50 1] M1 none M7 ∧ Q (some (vI r1)) M7)))) ∧ (r1 = (-1) → Q (some (vI (-1))) M1)) :
    V X (d + 1) 109 0 [some (vR 2 0), some (vI p0), none] [] M Q := wpn_sound (cuts := []) ok109 23 0 _ _ _ h
theorem e109 {X : Cx} {d : Nat} {M M2 : Mem} {p0 : Int32} {r : Int32} (h : V X d 109 0 [some (vR 2 0), some (vI p0), none] [] M (fun r' M' => r' = (some (vI r)) ∧ M' = M2)) : CC X d 109 [vR 2 0, vI p0] M (some (vI r)) M2 := CC_of (by decide) trivial (Nat.le_of_ble_eq_true rfl) (by simp [c1]) h
-- ClayBoots.fault, from 0
set_option maxRecDepth 100000 in
theorem w110_0 {X : Cx} {d : Nat} {M : Mem} {Q : Option Vl → Mem → Prop} {p0 : Int32}
    (h : (p0 = 0 → Q (some (vI (M.1 3 0 13))) M) ∧ (¬ p0 = 0 → (p0 = 1 → Q (some (vI (M.1 3 0 14))) M) ∧ (¬ p0 = 1 → Q (some (vI (-1))) M))) :
    V X (d + 1) 110 0 [some (vR 2 0), some (vI p0)] [] M Q := wpn_sound (cuts := []) ok110 7 0 _ _ _ h
theorem e110 {X : Cx} {d : Nat} {M M2 : Mem} {p0 : Int32} {r : Int32} (h : V X d 110 0 [some (vR 2 0), some (vI p0)] [] M (fun r' M' => r' = (some (vI r)) ∧ M' = M2)) : CC X d 110 [vR 2 0, vI p0] M (some (vI r)) M2 := CC_of (by decide) trivial (Nat.le_of_ble_eq_true rfl) (by simp [c1]) h
-- ClayBoots.of, from 0
set_option maxRecDepth 100000 in
theorem w111_0 {X : Cx} {d : Nat} {M : Mem} {Q : Option Vl → Mem → Prop} {p0 p1 : Int32}
    (h : ∃ (r1 : Int32) (M1 : Mem), CC X d 57 [vR 20 0, vI p0] M (some (vI r1)) M1 ∧ (¬ r1 = 0 → (p1 = 0 → inb p0 12 ∧ Q (some (vI (M1.1 25 0 (ix p0)))) M1) ∧ (¬ p1 = 0 → (p1 = 1 → inb p0 12 ∧ Q (some (vI (M1.1 26 0 (ix p0)))) M1) ∧ (¬ p1 = 1 → (p1 = 2 → inb p0 12 ∧ Q (some (vI (M1.1 27 0 (ix p0)))) M1) ∧ (¬ p1 = 2 → (p1 = 3 → inb p0 12 ∧ Q (some (vI (M1.1 28 0 (ix p0)))) M1) ∧ (¬ p1 = 3 → (p1 = 4 → ∃ (r2 : Int32) (M2 : Mem), CC X d 63 [vR 20 0, vI p0] M1 (some (vI r2)) M2 ∧ Q (some (vI r2)) M2) ∧ (¬ p1 = 4 → ∃ (r3 : Int32) (M3 : Mem), CC X d 146 [vI p1, vI 10, vI 19] M1 (some (vI r3)) M3 ∧ (r3 = 0 → ∃ (r4 : Int32) (M4 : Mem), CC X d 146 [vI p1, vI 20, vI 29] M3 (some (vI r4)) M4 ∧ (r4 = 0 → Q (some (vI (-1))) M4) ∧ (¬ r4 = 0 → ∃ (r5 : Int32) (M5 : Mem), CC X d 55 [vR 20 0, vI (p1 - 20)] M4 (some (vI r5)) M5 ∧ (r5 = 0 → Q (some (vI (-1))) M5) ∧ (¬ r5 = 0 → ∃ (r6 : Int32) (M6 : Mem), CC X d 89 [vR 11 0, vI 10010, vI p0, vI (p1 - 20), vI (-1)] M5 (some (vI r6)) M6 ∧ Q (some (vI r6)) M6))) ∧ (¬ r3 = 0 → ∃ (r7 : Int32) (M7 : Mem), CC X d 55 [vR 20 0, vI (p1 - 10)] M3 (some (vI r7)) M7 ∧ (r7 = 0 → ∃ (r8 : Int32) (M8 : Mem), CC X d 146 [vI p1, vI 20, vI 29] M7 (some (vI r8)) M8 ∧ (r8 = 0 → Q (some (vI (-1))) M8) ∧ (¬ r8 = 0 → ∃ (r9 : Int32) (M9 : Mem), CC X d 55 [vR 20 0, vI (p1 - 20)] M8 (some (vI r9)) M9 ∧ (r9 = 0 → Q (some (vI (-1))) M9) ∧ (¬ r9 = 0 → ∃ (r10 : Int32) (M10 : Mem), CC X d 89 [vR 11 0, vI 10010, vI p0, vI (p1 - 20), vI (-1)] M9 (some (vI r10)) M10 ∧ Q (some (vI r10)) M10))) ∧ (¬ r7 = 0 → inb (((p0 * 10) + p1) - 10) 120 ∧ Q (some (vI (M7.1 29 0 (ix (((p0 * 10) + p1) - 10))))) M7)))))))) ∧ (r1 = 0 → Q (some (vI (-1))) M1)) :
    V X (d + 1) 111 0 [some (vR 2 0), some (vI p0), some (vI p1)] [] M Q := wpn_sound (cuts := []) ok111 42 0 _ _ _ h
theorem e111 {X : Cx} {d : Nat} {M M2 : Mem} {p0 p1 : Int32} {r : Int32} (h : V X d 111 0 [some (vR 2 0), some (vI p0), some (vI p1)] [] M (fun r' M' => r' = (some (vI r)) ∧ M' = M2)) : CC X d 111 [vR 2 0, vI p0, vI p1] M (some (vI r)) M2 := CC_of (by decide) trivial (Nat.le_of_ble_eq_true rfl) (by simp [c1]) h
-- ClayBoots.fieldOf, from 0
set_option maxRecDepth 100000 in
theorem w112_0 {X : Cx} {d : Nat} {M : Mem} {Q : Option Vl → Mem → Prop} {p0 p1 : Int32}
    (h : ∃ (r1 : Int32) (M1 : Mem), CC X d 55 [vR 20 0, vI p0] M (some (vI r1)) M1 ∧ (¬ r1 = 0 → (p1 = 0 → inb p0 10 ∧ Q (some (vI (M1.1 21 0 (ix p0)))) M1) ∧ (¬ p1 = 0 → (p1 = 1 → inb p0 10 ∧ Q (some (vI (M1.1 22 0 (ix p0)))) M1) ∧ (¬ p1 = 1 → (p1 = 2 → ∃ (r2 : Int32) (M2 : Mem), CC X d 66 [vR 20 0, vI p0] M1 (some (vI r2)) M2 ∧ Q (some (vI r2)) M2) ∧ (¬ p1 = 2 → Q (some (vI (-2))) M1)))) ∧ (r1 = 0 → Q (some (vI (-2))) M1)) :
    V X (d + 1) 112 0 [some (vR 2 0), some (vI p0), some (vI p1)] [] M Q := wpn_sound (cuts := []) ok112 14 0 _ _ _ h
theorem e112 {X : Cx} {d : Nat} {M M2 : Mem} {p0 p1 : Int32} {r : Int32} (h : V X d 112 0 [some (vR 2 0), some (vI p0), some (vI p1)] [] M (fun r' M' => r' = (some (vI r)) ∧ M' = M2)) : CC X d 112 [vR 2 0, vI p0, vI p1] M (some (vI r)) M2 := CC_of (by decide) trivial (Nat.le_of_ble_eq_true rfl) (by simp [c1]) h
-- ClayBoots.doorOf, from 0
set_option maxRecDepth 100000 in
theorem w113_0 {X : Cx} {d : Nat} {M : Mem} {Q : Option Vl → Mem → Prop} {p0 p1 : Int32}
    (h : ∃ (r1 : Int32) (M1 : Mem), CC X d 56 [vR 20 0, vI p0] M (some (vI r1)) M1 ∧ (¬ r1 = 0 → (p1 = 0 → inb p0 8 ∧ Q (some (vI (M1.1 23 0 (ix p0)))) M1) ∧ (¬ p1 = 0 → (p1 = 1 → ∃ (r2 : Int32) (M2 : Mem), CC X d 65 [vR 20 0, vI p0] M1 (some (vI r2)) M2 ∧ Q (some (vI r2)) M2) ∧ (¬ p1 = 1 → (p1 = 2 → ∃ (r3 : Int32) (M3 : Mem), CC X d 67 [vR 20 0, vI p0] M1 (some (vI r3)) M3 ∧ Q (some (vI r3)) M3) ∧ (¬ p1 = 2 → ∃ (r4 : Int32) (M4 : Mem), CC X d 146 [vI p1, vI 10, vI 19] M1 (some (vI r4)) M4 ∧ (r4 = 0 → ∃ (r5 : Int32) (M5 : Mem), CC X d 146 [vI p1, vI 20, vI 27] M4 (some (vI r5)) M5 ∧ (r5 = 0 → Q (some (vI (-2))) M5) ∧ (¬ r5 = 0 → ∃ (r6 : Int32) (M6 : Mem), CC X d 56 [vR 20 0, vI (p1 - 20)] M5 (some (vI r6)) M6 ∧ (r6 = 0 → Q (some (vI (-2))) M6) ∧ (¬ r6 = 0 → ∃ (r7 : Int32) (M7 : Mem), CC X d 18 [vR 50 0, vI p0, vI (p1 - 20)] M6 (some (vI r7)) M7 ∧ Q (some (vI r7)) M7))) ∧ (¬ r4 = 0 → ∃ (r8 : Int32) (M8 : Mem), CC X d 55 [vR 20 0, vI (p1 - 10)] M4 (some (vI r8)) M8 ∧ (r8 = 0 → ∃ (r9 : Int32) (M9 : Mem), CC X d 146 [vI p1, vI 20, vI 27] M8 (some (vI r9)) M9 ∧ (r9 = 0 → Q (some (vI (-2))) M9) ∧ (¬ r9 = 0 → ∃ (r10 : Int32) (M10 : Mem), CC X d 56 [vR 20 0, vI (p1 - 20)] M9 (some (vI r10)) M10 ∧ (r10 = 0 → Q (some (vI (-2))) M10) ∧ (¬ r10 = 0 → ∃ (r11 : Int32) (M11 : Mem), CC X d 18 [vR 50 0, vI p0, vI (p1 - 20)] M10 (some (vI r11)) M11 ∧ Q (some (vI r11)) M11))) ∧ (¬ r8 = 0 → inb (((p0 * 10) + p1) - 10) 80 ∧ Q (some (vI (M8.1 24 0 (ix (((p0 * 10) + p1) - 10))))) M8)))))) ∧ (r1 = 0 → Q (some (vI (-2))) M1)) :
    V X (d + 1) 113 0 [some (vR 2 0), some (vI p0), some (vI p1)] [] M Q := wpn_sound (cuts := []) ok113 40 0 _ _ _ h
theorem e113 {X : Cx} {d : Nat} {M M2 : Mem} {p0 p1 : Int32} {r : Int32} (h : V X d 113 0 [some (vR 2 0), some (vI p0), some (vI p1)] [] M (fun r' M' => r' = (some (vI r)) ∧ M' = M2)) : CC X d 113 [vR 2 0, vI p0, vI p1] M (some (vI r)) M2 := CC_of (by decide) trivial (Nat.le_of_ble_eq_true rfl) (by simp [c1]) h
-- ClayBoots.tells, from 0
set_option maxRecDepth 100000 in
theorem w114_0 {X : Cx} {d : Nat} {M : Mem} {Q : Option Vl → Mem → Prop} {p0 p1 p2 p3 : Int32}
    (h : ∃ (r1 : Int32) (M1 : Mem), CC X d 57 [vR 20 0, vI p0] M (some (vI r1)) M1 ∧ (r1 = 0 → Q (some (vI (-1))) M1) ∧ (¬ r1 = 0 → ∃ (r2 : Int32) (M2 : Mem), CC X d 56 [vR 20 0, vI p2] M1 (some (vI r2)) M2 ∧ (¬ r2 = 0 → (¬ p3 = 0 → (¬ p3 = 1 → Q (some (vI (-1))) M2) ∧ (p3 = 1 → ∃ (r3 : Int32) (M3 : Mem), CC X d 89 [vR 11 0, vI 10012, vI p0, vI (-1), vI p2] M2 (some (vI r3)) M3 ∧ Q (some (vI r3)) M3)) ∧ (p3 = 0 → ∃ (r4 : Int32) (M4 : Mem), CC X d 55 [vR 20 0, vI p1] M2 (some (vI r4)) M4 ∧ (r4 = 0 → (¬ p3 = 1 → Q (some (vI (-1))) M4) ∧ (p3 = 1 → ∃ (r5 : Int32) (M5 : Mem), CC X d 89 [vR 11 0, vI 10012, vI p0, vI (-1), vI p2] M4 (some (vI r5)) M5 ∧ Q (some (vI r5)) M5)) ∧ (¬ r4 = 0 → ∃ (r6 : Int32) (M6 : Mem), CC X d 89 [vR 11 0, vI 10011, vI p0, vI p1, vI p2] M4 (some (vI r6)) M6 ∧ Q (some (vI r6)) M6))) ∧ (r2 = 0 → Q (some (vI (-1))) M2))) :
    V X (d + 1) 114 0 [some (vR 2 0), some (vI p0), some (vI p1), some (vI p2), some (vI p3)] [] M Q := wpn_sound (cuts := []) ok114 30 0 _ _ _ h
theorem e114 {X : Cx} {d : Nat} {M M2 : Mem} {p0 p1 p2 p3 : Int32} {r : Int32} (h : V X d 114 0 [some (vR 2 0), some (vI p0), some (vI p1), some (vI p2), some (vI p3)] [] M (fun r' M' => r' = (some (vI r)) ∧ M' = M2)) : CC X d 114 [vR 2 0, vI p0, vI p1, vI p2, vI p3] M (some (vI r)) M2 := CC_of (by decide) trivial (Nat.le_of_ble_eq_true rfl) (by simp [c1]) h
-- ClayBoots.book, from 0
set_option maxRecDepth 100000 in
theorem w115_0 {X : Cx} {d : Nat} {M : Mem} {Q : Option Vl → Mem → Prop} {p0 p1 : Int32}
    (h : ∃ (r1 : Int32) (M1 : Mem), CC X d 146 [vI p0, vI 0, vI ((M.1 30 0 0) - 1)] M (some (vI r1)) M1 ∧ (r1 = 0 → Q (some (vI (-1))) M1) ∧ (¬ r1 = 0 → ∃ (r2 : Int32) (M2 : Mem), CC X d 146 [vI p1, vI 0, vI 3] M1 (some (vI r2)) M2 ∧ (¬ r2 = 0 → inb ((p0 * 4) + p1) 600 ∧ Q (some (vI (M2.1 31 0 (ix ((p0 * 4) + p1))))) M2) ∧ (r2 = 0 → Q (some (vI (-1))) M2))) :
    V X (d + 1) 115 0 [some (vR 2 0), some (vI p0), some (vI p1)] [] M Q := wpn_sound (cuts := []) ok115 27 0 _ _ _ h
theorem e115 {X : Cx} {d : Nat} {M M2 : Mem} {p0 p1 : Int32} {r : Int32} (h : V X d 115 0 [some (vR 2 0), some (vI p0), some (vI p1)] [] M (fun r' M' => r' = (some (vI r)) ∧ M' = M2)) : CC X d 115 [vR 2 0, vI p0, vI p1] M (some (vI r)) M2 := CC_of (by decide) trivial (Nat.le_of_ble_eq_true rfl) (by simp [c1]) h
-- ClayBoots.goes, from 0
set_option maxRecDepth 100000 in
theorem w116_0 {X : Cx} {d : Nat} {M : Mem} {Q : Option Vl → Mem → Prop} {p0 p1 : Int32}
    (h : ∃ (r1 : Int32) (M1 : Mem), CC X d 146 [vI p0, vI 1, vI 60] M (some (vI r1)) M1 ∧ (r1 = 0 → Q (some (vI (-1))) M1) ∧ (¬ r1 = 0 → ∃ (r2 : Int32) (M2 : Mem), CC X d 146 [vI p1, vI 0, vI 2] M1 (some (vI r2)) M2 ∧ (¬ r2 = 0 → ∃ (M3 : Mem), CC X d 54 [vR 20 1, vR 20 0] M2 none M3 ∧ V X (d + 1) 116 34 [some (vR 2 0), some (vI p0), some (vI p1), some (vI 0)] [] M3 Q) ∧ (r2 = 0 → Q (some (vI (-1))) M2))) :
    V X (d + 1) 116 0 [some (vR 2 0), some (vI p0), some (vI p1), none] [] M Q := wpn_sound (cuts := [(34, [true, true, true, true])]) ok116 18 0 _ _ _ h
-- ClayBoots.goes, from 34
set_option maxRecDepth 100000 in
theorem w116_34 {X : Cx} {d : Nat} {M : Mem} {Q : Option Vl → Mem → Prop} {x1 x2 x3 : Int32}
    (h : (x1 ≤ x3 → (¬ x2 = 0 → (¬ x2 = 1 → ∃ (r1 : Int32) (M1 : Mem), CC X d 68 [vR 20 1] M (some (vI r1)) M1 ∧ Q (some (vI r1)) M1) ∧ (x2 = 1 → ∃ (r2 : Int32) (M2 : Mem), CC X d 64 [vR 20 1] M (some (vI r2)) M2 ∧ Q (some (vI r2)) M2)) ∧ (x2 = 0 → Q (some (vI (M.1 20 1 3))) M)) ∧ (¬ x1 ≤ x3 → ∃ (r3 : Int32) (M3 : Mem), CC X d 95 [vR 11 1] M (some (vI r3)) M3 ∧ V X (d + 1) 116 34 [some (vR 2 0), some (vI x1), some (vI x2), some (vI (x3 + 1))] [] M3 Q)) :
    V X (d + 1) 116 34 [some (vR 2 0), some (vI x1), some (vI x2), some (vI x3)] [] M Q := wpn_sound (cuts := [(34, [true, true, true, true])]) ok116 14 34 _ _ _ h
theorem e116 {X : Cx} {d : Nat} {M M2 : Mem} {p0 p1 : Int32} {r : Int32} (h : V X d 116 0 [some (vR 2 0), some (vI p0), some (vI p1), none] [] M (fun r' M' => r' = (some (vI r)) ∧ M' = M2)) : CC X d 116 [vR 2 0, vI p0, vI p1] M (some (vI r)) M2 := CC_of (by decide) trivial (Nat.le_of_ble_eq_true rfl) (by simp [c1]) h
-- ClayBoots.would, from 0
set_option maxRecDepth 100000 in
theorem w117_0 {X : Cx} {d : Nat} {M : Mem} {Q : Option Vl → Mem → Prop} {p0 p1 p2 p3 : Int32}
    (h : ∃ (r1 : Int32) (M1 : Mem), CC X d 58 [vR 20 0, vI p0, vI p1, vI p2] M (some (vI r1)) M1 ∧ (r1 = 0 → Q (some (vI (-1))) M1) ∧ (¬ r1 = 0 → ∃ (r2 : Int32) (M2 : Mem), CC X d 146 [vI p3, vI 0, vI 1] M1 (some (vI r2)) M2 ∧ (¬ r2 = 0 → ∃ (M3 : Mem), CC X d 54 [vR 20 1, vR 20 0] M2 none M3 ∧ ∃ (r3 : Int32) (M4 : Mem), CC X d 90 [vR 11 1, vI p0, vI (10 + p1), vI p2] M3 (some (vI r3)) M4 ∧ (¬ p3 = 0 → Q (some (vI (M4.1 11 1 5))) M4) ∧ (p3 = 0 → Q (some (vI r3)) M4)) ∧ (r2 = 0 → Q (some (vI (-1))) M2))) :
    V X (d + 1) 117 0 [some (vR 2 0), some (vI p0), some (vI p1), some (vI p2), some (vI p3), none] [] M Q := wpn_sound (cuts := []) ok117 33 0 _ _ _ h
theorem e117 {X : Cx} {d : Nat} {M M2 : Mem} {p0 p1 p2 p3 : Int32} {r : Int32} (h : V X d 117 0 [some (vR 2 0), some (vI p0), some (vI p1), some (vI p2), some (vI p3), none] [] M (fun r' M' => r' = (some (vI r)) ∧ M' = M2)) : CC X d 117 [vR 2 0, vI p0, vI p1, vI p2, vI p3] M (some (vI r)) M2 := CC_of (by decide) trivial (Nat.le_of_ble_eq_true rfl) (by simp [c1]) h
-- ClayBoots.many, from 0
set_option maxRecDepth 100000 in
theorem w118_0 {X : Cx} {d : Nat} {M : Mem} {Q : Option Vl → Mem → Prop} {p0 p1 p2 p3 : Int32}
    (h : ∃ (r1 : Int32) (M1 : Mem), CC X d 58 [vR 20 0, vI p0, vI p1, vI p2] M (some (vI r1)) M1 ∧ (r1 = 0 → Q (some (vI (-1))) M1) ∧ (¬ r1 = 0 → ∃ (r2 : Int32) (M2 : Mem), CC X d 146 [vI p3, vI 1, vI 9999] M1 (some (vI r2)) M2 ∧ (¬ r2 = 0 → ∃ (M3 : Mem), CC X d 54 [vR 20 1, vR 20 0] M2 none M3 ∧ V X (d + 1) 118 41 [some (vR 2 0), some (vI p0), some (vI p1), some (vI p2), some (vI p3), some (vI 0)] [] M3 Q) ∧ (r2 = 0 → Q (some (vI (-1))) M2))) :
    V X (d + 1) 118 0 [some (vR 2 0), some (vI p0), some (vI p1), some (vI p2), some (vI p3), none] [] M Q := wpn_sound (cuts := [(41, [true, true, true, true, true, true])]) ok118 20 0 _ _ _ h
-- ClayBoots.many, from 41
set_option maxRecDepth 100000 in
theorem w118_41 {X : Cx} {d : Nat} {M : Mem} {Q : Option Vl → Mem → Prop} {x1 x2 x3 x4 x5 : Int32}
    (h : (99 < x5 → Q (some (vI (-1))) M) ∧ (¬ 99 < x5 → inb ((x3 * 10) + x2) 80 ∧ ((M.1 24 1 (ix ((x3 * 10) + x2))) < x4 → ∃ (r1 : Int32) (M1 : Mem), CC X d 90 [vR 11 1, vI x1, vI (10 + x2), vI x3] M (some (vI r1)) M1 ∧ V X (d + 1) 118 41 [some (vR 2 0), some (vI x1), some (vI x2), some (vI x3), some (vI x4), some (vI (x5 + 1))] [] M1 Q) ∧ (¬ (M.1 24 1 (ix ((x3 * 10) + x2))) < x4 → Q (some (vI x5)) M))) :
    V X (d + 1) 118 41 [some (vR 2 0), some (vI x1), some (vI x2), some (vI x3), some (vI x4), some (vI x5)] [] M Q := wpn_sound (cuts := [(41, [true, true, true, true, true, true])]) ok118 26 41 _ _ _ h
theorem e118 {X : Cx} {d : Nat} {M M2 : Mem} {p0 p1 p2 p3 : Int32} {r : Int32} (h : V X d 118 0 [some (vR 2 0), some (vI p0), some (vI p1), some (vI p2), some (vI p3), none] [] M (fun r' M' => r' = (some (vI r)) ∧ M' = M2)) : CC X d 118 [vR 2 0, vI p0, vI p1, vI p2, vI p3] M (some (vI r)) M2 := CC_of (by decide) trivial (Nat.le_of_ble_eq_true rfl) (by simp [c1]) h
-- ClayBoots.order, from 0
set_option maxRecDepth 100000 in
theorem w119_0 {X : Cx} {d : Nat} {M : Mem} {Q : Option Vl → Mem → Prop} {p0 p1 p2 p3 : Int32}
    (h : ∃ (r1 : Int32) (M1 : Mem), CC X d 274 [vI p2] M (some (vI r1)) M1 ∧ ∃ (r2 : Int32) (M2 : Mem), CC X d 57 [vR 20 0, vI p0] M1 (some (vI r2)) M2 ∧ (r2 = 0 → Q (some (vI (-1))) M2) ∧ (¬ r2 = 0 → ∃ (r3 : Int32) (M3 : Mem), CC X d 56 [vR 20 0, vI p1] M2 (some (vI r3)) M3 ∧ (r3 = 0 → Q (some (vI (-1))) M3) ∧ (¬ r3 = 0 → (p2 ≤ 0 → Q (some (vI (-1))) M3) ∧ (¬ p2 ≤ 0 → ((1 <<< ((M3.1 20 0 5) &&& 31)) ≤ p2 → Q (some (vI (-1))) M3) ∧ (¬ (1 <<< ((M3.1 20 0 5) &&& 31)) ≤ p2 → (5 < r1 → Q (some (vI (-1))) M3) ∧ (¬ 5 < r1 → (p3 = 0 → ∃ (r4 : Int32) (M4 : Mem), CC X d 121 [vI r1] M3 (some (vI r4)) M4 ∧ V X (d + 1) 119 89 [some (vR 2 0), some (vI p0), some (vI p1), some (vI p2), some (vI p3), none, some (vI r4), some (vI (-1)), some (vI 0), some (vI 0), none, none] [] M4 Q) ∧ (¬ p3 = 0 → ∃ (r5 : Int32) (M5 : Mem), CC X d 146 [vI p3, vI 10, vI (9 + r1)] M3 (some (vI r5)) M5 ∧ (¬ r5 = 0 → ∃ (r6 : Int32) (M6 : Mem), CC X d 121 [vI r1] M5 (some (vI r6)) M6 ∧ V X (d + 1) 119 89 [some (vR 2 0), some (vI p0), some (vI p1), some (vI p2), some (vI p3), none, some (vI r6), some (vI (-1)), some (vI 0), some (vI 0), none, none] [] M6 Q) ∧ (r5 = 0 → Q (some (vI (-1))) M5)))))))) :
    V X (d + 1) 119 0 [some (vR 2 0), some (vI p0), some (vI p1), some (vI p2), some (vI p3), none, none, none, none, none, none, none] [] M Q := wpn_sound (cuts := [(89, [true, true, true, true, true, false, true, true, true, true, false, false])]) ok119 44 0 _ _ _ h
-- ClayBoots.order, from 89
set_option maxRecDepth 100000 in
theorem w119_89 {X : Cx} {d : Nat} {M : Mem} {Q : Option Vl → Mem → Prop} {x1 x2 x3 x4 x6 x7 x8 x9 : Int32}
    (h : (x6 ≤ x9 → (¬ x4 = 0 → ∃ (r1 : Int32) (M1 : Mem), CC X d 123 [vI x8, vI (x4 - 10)] M (some (vI r1)) M1 ∧ Q (some (vI r1)) M1) ∧ (x4 = 0 → Q (some (vI x7)) M)) ∧ (¬ x6 ≤ x9 → ∃ (r2 : Int32) (M2 : Mem), CC X d 120 [vI x3, vI x9] M (some (vI r2)) M2 ∧ ∃ (M3 : Mem), CC X d 54 [vR 20 1, vR 20 0] M2 none M3 ∧ ∃ (r3 : Int32) (M4 : Mem), CC X d 90 [vR 11 1, vI x1, vI r2, vI x2] M3 (some (vI r3)) M4 ∧ (r3 ≤ x7 → V X (d + 1) 119 89 [some (vR 2 0), some (vI x1), some (vI x2), some (vI x3), some (vI x4), none, some (vI x6), some (vI x7), some (vI x8), some (vI (x9 + 1)), none, none] [] M4 Q) ∧ (¬ r3 ≤ x7 → V X (d + 1) 119 89 [some (vR 2 0), some (vI x1), some (vI x2), some (vI x3), some (vI x4), none, some (vI x6), some (vI r3), some (vI r2), some (vI (x9 + 1)), none, none] [] M4 Q))) :
    V X (d + 1) 119 89 [some (vR 2 0), some (vI x1), some (vI x2), some (vI x3), some (vI x4), none, some (vI x6), some (vI x7), some (vI x8), some (vI x9), none, none] [] M Q := wpn_sound (cuts := [(89, [true, true, true, true, true, false, true, true, true, true, false, false])]) ok119 29 89 _ _ _ h
theorem e119 {X : Cx} {d : Nat} {M M2 : Mem} {p0 p1 p2 p3 : Int32} {r : Int32} (h : V X d 119 0 [some (vR 2 0), some (vI p0), some (vI p1), some (vI p2), some (vI p3), none, none, none, none, none, none, none] [] M (fun r' M' => r' = (some (vI r)) ∧ M' = M2)) : CC X d 119 [vR 2 0, vI p0, vI p1, vI p2, vI p3] M (some (vI r)) M2 := CC_of (by decide) trivial (Nat.le_of_ble_eq_true rfl) (by simp [c1]) h
-- ClayBoots.orderedRow, from 0
set_option maxRecDepth 100000 in
theorem w120_0 {X : Cx} {d : Nat} {M : Mem} {Q : Option Vl → Mem → Prop} {p0 p1 : Int32}
    (h : ∃ (r1 : Int32) (M1 : Mem), CC X d 274 [vI p0] M (some (vI r1)) M1 ∧ V X (d + 1) 120 13 [none, none, some (vI p0), some (vI 1), some (vI p1), some (vI r1), none, none] [] M1 Q) :
    V X (d + 1) 120 0 [some (vI p0), some (vI p1), none, none, none, none, none, none] [] M Q := wpn_sound (cuts := [(13, [false, false, true, true, true, true, false, false])]) ok120 10 0 _ _ _ h
-- ClayBoots.orderedRow, from 13
set_option maxRecDepth 100000 in
theorem w120_13 {X : Cx} {d : Nat} {M : Mem} {Q : Option Vl → Mem → Prop} {x2 x3 x4 x5 : Int32}
    (h : (x5 ≤ 0 → Q (some (vI x3)) M) ∧ (¬ x5 ≤ 0 → ∃ (r1 : Int32) (M1 : Mem), CC X d 121 [vI (x5 - 1)] M (some (vI r1)) M1 ∧ ¬ (if 1 < r1 then r1 else 1) = 0 ∧ ∃ (r2 : Int32) (M2 : Mem), CC X d 122 [vI x2, vI (x4 / (if 1 < r1 then r1 else 1))] M1 (some (vI r2)) M2 ∧ ¬ (if 1 < r1 then r1 else 1) = 0 ∧ V X (d + 1) 120 13 [none, none, some (vI (x2 &&& ((1 <<< (r2 &&& 31)) ^^^ (-1)))), some (vI ((x3 * 10) + r2)), some (vI (x4 % (if 1 < r1 then r1 else 1))), some (vI (x5 + (-1))), none, none] [] M2 Q)) :
    V X (d + 1) 120 13 [none, none, some (vI x2), some (vI x3), some (vI x4), some (vI x5), none, none] [] M Q := wpn_sound (cuts := [(13, [false, false, true, true, true, true, false, false])]) ok120 36 13 _ _ _ h
theorem e120 {X : Cx} {d : Nat} {M M2 : Mem} {p0 p1 : Int32} {r : Int32} (h : V X d 120 0 [some (vI p0), some (vI p1), none, none, none, none, none, none] [] M (fun r' M' => r' = (some (vI r)) ∧ M' = M2)) : CC X d 120 [vI p0, vI p1] M (some (vI r)) M2 := CC_of (by decide) trivial (Nat.le_of_ble_eq_true rfl) (by simp [c1]) h
-- ClayBoots.factorial, from 0
set_option maxRecDepth 100000 in
theorem w121_0 {X : Cx} {d : Nat} {M : Mem} {Q : Option Vl → Mem → Prop} {p0 : Int32}
    (h : V X (d + 1) 121 4 [some (vI p0), some (vI 1), some (vI 2)] [] M Q) :
    V X (d + 1) 121 0 [some (vI p0), none, none] [] M Q := wpn_sound (cuts := [(4, [true, true, true])]) ok121 5 0 _ _ _ h
-- ClayBoots.factorial, from 4
set_option maxRecDepth 100000 in
theorem w121_4 {X : Cx} {d : Nat} {M : Mem} {Q : Option Vl → Mem → Prop} {x0 x1 x2 : Int32}
    (h : (x0 < x2 → Q (some (vI x1)) M) ∧ (¬ x0 < x2 → (5 < x2 → Q (some (vI x1)) M) ∧ (¬ 5 < x2 → V X (d + 1) 121 4 [some (vI x0), some (vI (x1 * x2)), some (vI (x2 + 1))] [] M Q))) :
    V X (d + 1) 121 4 [some (vI x0), some (vI x1), some (vI x2)] [] M Q := wpn_sound (cuts := [(4, [true, true, true])]) ok121 13 4 _ _ _ h
theorem e121 {X : Cx} {d : Nat} {M M2 : Mem} {p0 : Int32} {r : Int32} (h : V X d 121 0 [some (vI p0), none, none] [] M (fun r' M' => r' = (some (vI r)) ∧ M' = M2)) : CC X d 121 [vI p0] M (some (vI r)) M2 := CC_of (by decide) trivial (Nat.le_of_ble_eq_true rfl) (by simp [c1]) h
-- ClayBoots.bitAt, from 0
set_option maxRecDepth 100000 in
theorem w122_0 {X : Cx} {d : Nat} {M : Mem} {Q : Option Vl → Mem → Prop} {p0 p1 : Int32}
    (h : V X (d + 1) 122 4 [some (vI p0), some (vI p1), some (vI 0), some (vI 0)] [] M Q) :
    V X (d + 1) 122 0 [some (vI p0), some (vI p1), none, none] [] M Q := wpn_sound (cuts := [(4, [true, true, true, true])]) ok122 5 0 _ _ _ h
-- ClayBoots.bitAt, from 4
set_option maxRecDepth 100000 in
theorem w122_4 {X : Cx} {d : Nat} {M : Mem} {Q : Option Vl → Mem → Prop} {x0 x1 x2 x3 : Int32}
    (h : (10 ≤ x3 → Q (some (vI 0)) M) ∧ (¬ 10 ≤ x3 → (¬ ((x0 >>> (x3 &&& 31)) &&& 1) = 1 → V X (d + 1) 122 4 [some (vI x0), some (vI x1), some (vI x2), some (vI (x3 + 1))] [] M Q) ∧ (((x0 >>> (x3 &&& 31)) &&& 1) = 1 → (¬ x2 = x1 → V X (d + 1) 122 4 [some (vI x0), some (vI x1), some (vI (x2 + 1)), some (vI (x3 + 1))] [] M Q) ∧ (x2 = x1 → Q (some (vI x3)) M)))) :
    V X (d + 1) 122 4 [some (vI x0), some (vI x1), some (vI x2), some (vI x3)] [] M Q := wpn_sound (cuts := [(4, [true, true, true, true])]) ok122 17 4 _ _ _ h
theorem e122 {X : Cx} {d : Nat} {M M2 : Mem} {p0 p1 : Int32} {r : Int32} (h : V X d 122 0 [some (vI p0), some (vI p1), none, none] [] M (fun r' M' => r' = (some (vI r)) ∧ M' = M2)) : CC X d 122 [vI p0, vI p1] M (some (vI r)) M2 := CC_of (by decide) trivial (Nat.le_of_ble_eq_true rfl) (by simp [c1]) h
-- ClayBoots.fieldInRow, from 0
set_option maxRecDepth 100000 in
theorem w123_0 {X : Cx} {d : Nat} {M : Mem} {Q : Option Vl → Mem → Prop} {p0 p1 : Int32}
    (h : ∃ (r1 : Int32) (M1 : Mem), CC X d 149 [vI p0] M (some (vI r1)) M1 ∧ ¬ (10 : Int32) = 0 ∧ V X (d + 1) 123 10 [some (vI p0), some (vI p1), some (vI (r1 / 10)), some (vI 0)] [] M1 Q) :
    V X (d + 1) 123 0 [some (vI p0), some (vI p1), none, none] [] M Q := wpn_sound (cuts := [(10, [true, true, true, true])]) ok123 8 0 _ _ _ h
-- ClayBoots.fieldInRow, from 10
set_option maxRecDepth 100000 in
theorem w123_10 {X : Cx} {d : Nat} {M : Mem} {Q : Option Vl → Mem → Prop} {x0 x1 x2 x3 : Int32}
    (h : (x1 ≤ x3 → (x2 ≤ 0 → Q (some (vI (-1))) M) ∧ (¬ x2 ≤ 0 → ¬ x2 = 0 ∧ ¬ (10 : Int32) = 0 ∧ Q (some (vI ((x0 / x2) % 10))) M)) ∧ (¬ x1 ≤ x3 → (6 ≤ x3 → (x2 ≤ 0 → Q (some (vI (-1))) M) ∧ (¬ x2 ≤ 0 → ¬ x2 = 0 ∧ ¬ (10 : Int32) = 0 ∧ Q (some (vI ((x0 / x2) % 10))) M)) ∧ (¬ 6 ≤ x3 → ¬ (10 : Int32) = 0 ∧ V X (d + 1) 123 10 [some (vI x0), some (vI x1), some (vI (x2 / 10)), some (vI (x3 + 1))] [] M Q))) :
    V X (d + 1) 123 10 [some (vI x0), some (vI x1), some (vI x2), some (vI x3)] [] M Q := wpn_sound (cuts := [(10, [true, true, true, true])]) ok123 16 10 _ _ _ h
theorem e123 {X : Cx} {d : Nat} {M M2 : Mem} {p0 p1 : Int32} {r : Int32} (h : V X d 123 0 [some (vI p0), some (vI p1), none, none] [] M (fun r' M' => r' = (some (vI r)) ∧ M' = M2)) : CC X d 123 [vI p0, vI p1] M (some (vI r)) M2 := CC_of (by decide) trivial (Nat.le_of_ble_eq_true rfl) (by simp [c1]) h
-- ClayBoots.clay, from 0
set_option maxRecDepth 100000 in
theorem w124_0 {X : Cx} {d : Nat} {M : Mem} {Q : Option Vl → Mem → Prop} {p0 p1 : Int32}
    (h : ∃ (r1 : Int32) (M1 : Mem), CC X d 146 [vI p0, vI 0, vI 5] M (some (vI r1)) M1 ∧ (r1 = 0 → isB 0 ∧ Q (some (vI 0)) M1) ∧ (¬ r1 = 0 → ∃ (r2 : Int32) (M2 : Mem), CC X d 146 [vI p1, vI 0, vI 30] M1 (some (vI r2)) M2 ∧ (¬ r2 = 0 → inb p0 6 ∧ ∀ M3, M3 = st M2 71 0 (ix p0) p1 → isB 1 ∧ Q (some (vI 1)) M3) ∧ (r2 = 0 → isB 0 ∧ Q (some (vI 0)) M2))) :
    V X (d + 1) 124 0 [some (vR 2 0), some (vI p0), some (vI p1)] [] M Q := wpn_sound (cuts := []) ok124 19 0 _ _ _ h
theorem e124 {X : Cx} {d : Nat} {M M2 : Mem} {p0 p1 : Int32} {r : Int32} (h : V X d 124 0 [some (vR 2 0), some (vI p0), some (vI p1)] [] M (fun r' M' => r' = (some (vI r)) ∧ M' = M2)) : CC X d 124 [vR 2 0, vI p0, vI p1] M (some (vI r)) M2 := CC_of (by decide) trivial (Nat.le_of_ble_eq_true rfl) (by simp [c1]) h
-- ClayBoots.mix, from 0
set_option maxRecDepth 100000 in
theorem w125_0 {X : Cx} {d : Nat} {M : Mem} {Q : Option Vl → Mem → Prop} {p0 : Int32}
    (h : ∃ (r1 : Int32) (M1 : Mem), CC X d 146 [vI p0, vI 0, vI 5] M (some (vI r1)) M1 ∧ (r1 = 0 → (p0 = (-1) → V X (d + 1) 125 34 [some (vR 2 0), none, some (vJ (Int64.ofNat 1)), none, some (vI 0)] [] M1 Q) ∧ (¬ p0 = (-1) → Q (some (vI (-1))) M1)) ∧ (¬ r1 = 0 → ∃ (r2 : Int32) (M2 : Mem), CC X d 72 [vR 70 0, vI p0, vR 20 0] M1 (some (vI r2)) M2 ∧ Q (some (vI r2)) M2)) :
    V X (d + 1) 125 0 [some (vR 2 0), some (vI p0), none, none, none] [] M Q := wpn_sound (cuts := [(34, [true, false, true, false, true])]) ok125 13 0 _ _ _ h
-- ClayBoots.mix, from 34
set_option maxRecDepth 100000 in
theorem w125_34 {X : Cx} {d : Nat} {M : Mem} {Q : Option Vl → Mem → Prop} {x4 : Int32} {x2 : Int64}
    (h : (6 ≤ x4 → Q (some (vI (Int64.toInt32 x2))) M) ∧ (¬ 6 ≤ x4 → ∃ (r1 : Int32) (M1 : Mem), CC X d 72 [vR 70 0, vI x4, vR 20 0] M (some (vI r1)) M1 ∧ ¬ (Int64.ofNat 1000000007) = 0 ∧ V X (d + 1) 125 34 [some (vR 2 0), none, some (vJ ((x2 * (Int32.toInt64 r1)) % (Int64.ofNat 1000000007))), none, some (vI (x4 + 1))] [] M1 Q)) :
    V X (d + 1) 125 34 [some (vR 2 0), none, some (vJ x2), none, some (vI x4)] [] M Q := wpn_sound (cuts := [(34, [true, false, true, false, true])]) ok125 18 34 _ _ _ h
theorem e125 {X : Cx} {d : Nat} {M M2 : Mem} {p0 : Int32} {r : Int32} (h : V X d 125 0 [some (vR 2 0), some (vI p0), none, none, none] [] M (fun r' M' => r' = (some (vI r)) ∧ M' = M2)) : CC X d 125 [vR 2 0, vI p0] M (some (vI r)) M2 := CC_of (by decide) trivial (Nat.le_of_ble_eq_true rfl) (by simp [c1]) h
-- ClayBoots.garden, from 0
set_option maxRecDepth 100000 in
theorem w126_0 {X : Cx} {d : Nat} {M : Mem} {Q : Option Vl → Mem → Prop} {p0 p1 : Int32}
    (h : ∃ (r1 : Int32) (M1 : Mem), CC X d 146 [vI p0, vI 0, vI 7] M (some (vI r1)) M1 ∧ (r1 = 0 → isB 0 ∧ Q (some (vI 0)) M1) ∧ (¬ r1 = 0 → ∃ (r2 : Int32) (M2 : Mem), CC X d 146 [vI p1, vI 0, vI 7] M1 (some (vI r2)) M2 ∧ (¬ r2 = 0 → inb p0 8 ∧ ∀ M3, M3 = st M2 72 0 (ix p0) p1 → isB 1 ∧ Q (some (vI 1)) M3) ∧ (r2 = 0 → isB 0 ∧ Q (some (vI 0)) M2))) :
    V X (d + 1) 126 0 [some (vR 2 0), some (vI p0), some (vI p1)] [] M Q := wpn_sound (cuts := []) ok126 19 0 _ _ _ h
theorem e126 {X : Cx} {d : Nat} {M M2 : Mem} {p0 p1 : Int32} {r : Int32} (h : V X d 126 0 [some (vR 2 0), some (vI p0), some (vI p1)] [] M (fun r' M' => r' = (some (vI r)) ∧ M' = M2)) : CC X d 126 [vR 2 0, vI p0, vI p1] M (some (vI r)) M2 := CC_of (by decide) trivial (Nat.le_of_ble_eq_true rfl) (by simp [c1]) h
-- ClayBoots.back, from 0
set_option maxRecDepth 100000 in
theorem w127_0 {X : Cx} {d : Nat} {M : Mem} {Q : Option Vl → Mem → Prop} {p0 : Int32}
    (h : ∃ (r1 : Int32) (M1 : Mem), CC X d 146 [vI p0, vI 0, vI 1] M (some (vI r1)) M1 ∧ (r1 = 0 → Q (some (vI (-1))) M1) ∧ (¬ r1 = 0 → (¬ p0 = 0 → ∃ (r2 : Int32) (M2 : Mem), CC X d 74 [vR 70 0, vI 0] M1 (some (vI r2)) M2 ∧ Q (some (vI r2)) M2) ∧ (p0 = 0 → ∃ (r3 : Int32) (M3 : Mem), CC X d 74 [vR 70 0, vI 1] M1 (some (vI r3)) M3 ∧ Q (some (vI r3)) M3))) :
    V X (d + 1) 127 0 [some (vR 2 0), some (vI p0)] [] M Q := wpn_sound (cuts := []) ok127 15 0 _ _ _ h
theorem e127 {X : Cx} {d : Nat} {M M2 : Mem} {p0 : Int32} {r : Int32} (h : V X d 127 0 [some (vR 2 0), some (vI p0)] [] M (fun r' M' => r' = (some (vI r)) ∧ M' = M2)) : CC X d 127 [vR 2 0, vI p0] M (some (vI r)) M2 := CC_of (by decide) trivial (Nat.le_of_ble_eq_true rfl) (by simp [c1]) h
-- ClayBoots.wear, from 0
set_option maxRecDepth 100000 in
theorem w128_0 {X : Cx} {d : Nat} {M : Mem} {Q : Option Vl → Mem → Prop} {p0 p1 : Int32}
    (h : (¬ p0 = (-1) → ∃ (r1 : Int32) (M1 : Mem), CC X d 146 [vI p0, vI 0, vI 99] M (some (vI r1)) M1 ∧ (r1 = 0 → ((0 : Int32) = 0 → Q (some (vI (-1))) M1) ∧ (¬ (0 : Int32) = 0 → ∃ (r2 : Int32) (M2 : Mem), CC X d 86 [vR 80 0, vI p0, vI p1] M1 (some (vI r2)) M2 ∧ Q (some (vI r2)) M2)) ∧ (¬ r1 = 0 → ∃ (r3 : Int32) (M3 : Mem), CC X d 146 [vI p1, vI 0, vI 99] M1 (some (vI r3)) M3 ∧ (r3 = 0 → ((0 : Int32) = 0 → Q (some (vI (-1))) M3) ∧ (¬ (0 : Int32) = 0 → ∃ (r4 : Int32) (M4 : Mem), CC X d 86 [vR 80 0, vI p0, vI p1] M3 (some (vI r4)) M4 ∧ Q (some (vI r4)) M4)) ∧ (¬ r3 = 0 → ((1 : Int32) = 0 → Q (some (vI (-1))) M3) ∧ (¬ (1 : Int32) = 0 → ∃ (r5 : Int32) (M5 : Mem), CC X d 86 [vR 80 0, vI p0, vI p1] M3 (some (vI r5)) M5 ∧ Q (some (vI r5)) M5)))) ∧ (p0 = (-1) → ∃ (r6 : Int32) (M6 : Mem), CC X d 87 [vR 80 0] M (some (vI r6)) M6 ∧ Q (some (vI r6)) M6)) :
    V X (d + 1) 128 0 [some (vR 2 0), some (vI p0), some (vI p1), none] [] M Q := wpn_sound (cuts := []) ok128 27 0 _ _ _ h
theorem e128 {X : Cx} {d : Nat} {M M2 : Mem} {p0 p1 : Int32} {r : Int32} (h : V X d 128 0 [some (vR 2 0), some (vI p0), some (vI p1), none] [] M (fun r' M' => r' = (some (vI r)) ∧ M' = M2)) : CC X d 128 [vR 2 0, vI p0, vI p1] M (some (vI r)) M2 := CC_of (by decide) trivial (Nat.le_of_ble_eq_true rfl) (by simp [c1]) h
-- ClayBoots.whose, from 0
set_option maxRecDepth 100000 in
theorem w129_0 {X : Cx} {d : Nat} {M : Mem} {Q : Option Vl → Mem → Prop} {p0 p1 : Int32}
    (h : ∃ (r1 : Int32) (M1 : Mem), CC X d 146 [vI p0, vI 0, vI 99] M (some (vI r1)) M1 ∧ (r1 = 0 → ((0 : Int32) = 0 → Q (some (vI (-1))) M1) ∧ (¬ (0 : Int32) = 0 → ∃ (r2 : Int32) (M2 : Mem), CC X d 76 [vR 70 0, vI p0, vI p1] M1 (some (vI r2)) M2 ∧ Q (some (vI r2)) M2)) ∧ (¬ r1 = 0 → ∃ (r3 : Int32) (M3 : Mem), CC X d 146 [vI p1, vI 0, vI 99] M1 (some (vI r3)) M3 ∧ (r3 = 0 → ((0 : Int32) = 0 → Q (some (vI (-1))) M3) ∧ (¬ (0 : Int32) = 0 → ∃ (r4 : Int32) (M4 : Mem), CC X d 76 [vR 70 0, vI p0, vI p1] M3 (some (vI r4)) M4 ∧ Q (some (vI r4)) M4)) ∧ (¬ r3 = 0 → ((1 : Int32) = 0 → Q (some (vI (-1))) M3) ∧ (¬ (1 : Int32) = 0 → ∃ (r5 : Int32) (M5 : Mem), CC X d 76 [vR 70 0, vI p0, vI p1] M3 (some (vI r5)) M5 ∧ Q (some (vI r5)) M5)))) :
    V X (d + 1) 129 0 [some (vR 2 0), some (vI p0), some (vI p1), none] [] M Q := wpn_sound (cuts := []) ok129 23 0 _ _ _ h
theorem e129 {X : Cx} {d : Nat} {M M2 : Mem} {p0 p1 : Int32} {r : Int32} (h : V X d 129 0 [some (vR 2 0), some (vI p0), some (vI p1), none] [] M (fun r' M' => r' = (some (vI r)) ∧ M' = M2)) : CC X d 129 [vR 2 0, vI p0, vI p1] M (some (vI r)) M2 := CC_of (by decide) trivial (Nat.le_of_ble_eq_true rfl) (by simp [c1]) h
-- ClayBoots.couples, from 0
set_option maxRecDepth 100000 in
theorem w130_0 {X : Cx} {d : Nat} {M : Mem} {Q : Option Vl → Mem → Prop} {p0 : Int32}
    (h : ∃ (r1 : Int32) (M1 : Mem), CC X d 146 [vI p0, vI 0, vI 198] M (some (vI r1)) M1 ∧ (r1 = 0 → Q (some (vI (-1))) M1) ∧ (¬ r1 = 0 → ∃ (r2 : Int32) (M2 : Mem), CC X d 77 [vR 70 0, vI p0] M1 (some (vI r2)) M2 ∧ Q (some (vI r2)) M2)) :
    V X (d + 1) 130 0 [some (vR 2 0), some (vI p0)] [] M Q := wpn_sound (cuts := []) ok130 12 0 _ _ _ h
theorem e130 {X : Cx} {d : Nat} {M M2 : Mem} {p0 : Int32} {r : Int32} (h : V X d 130 0 [some (vR 2 0), some (vI p0)] [] M (fun r' M' => r' = (some (vI r)) ∧ M' = M2)) : CC X d 130 [vR 2 0, vI p0] M (some (vI r)) M2 := CC_of (by decide) trivial (Nat.le_of_ble_eq_true rfl) (by simp [c1]) h
-- ClayBoots.caller, from 0
set_option maxRecDepth 100000 in
theorem w131_0 {X : Cx} {d : Nat} {M : Mem} {Q : Option Vl → Mem → Prop} {p0 p1 : Int32}
    (h : (¬ p0 = (-1) → ∃ (r1 : Int32) (M1 : Mem), CC X d 146 [vI p0, vI 0, vI 99] M (some (vI r1)) M1 ∧ (r1 = 0 → ((0 : Int32) = 0 → Q (some (vI (-1))) M1) ∧ (¬ (0 : Int32) = 0 → ∃ (r2 : Int32) (M2 : Mem), CC X d 86 [vR 83 0, vI p0, vI p1] M1 (some (vI r2)) M2 ∧ Q (some (vI r2)) M2)) ∧ (¬ r1 = 0 → ∃ (r3 : Int32) (M3 : Mem), CC X d 146 [vI p1, vI 1, vI 30] M1 (some (vI r3)) M3 ∧ (r3 = 0 → ((0 : Int32) = 0 → Q (some (vI (-1))) M3) ∧ (¬ (0 : Int32) = 0 → ∃ (r4 : Int32) (M4 : Mem), CC X d 86 [vR 83 0, vI p0, vI p1] M3 (some (vI r4)) M4 ∧ Q (some (vI r4)) M4)) ∧ (¬ r3 = 0 → ((1 : Int32) = 0 → Q (some (vI (-1))) M3) ∧ (¬ (1 : Int32) = 0 → ∃ (r5 : Int32) (M5 : Mem), CC X d 86 [vR 83 0, vI p0, vI p1] M3 (some (vI r5)) M5 ∧ Q (some (vI r5)) M5)))) ∧ (p0 = (-1) → ∃ (r6 : Int32) (M6 : Mem), CC X d 87 [vR 83 0] M (some (vI r6)) M6 ∧ Q (some (vI r6)) M6)) :
    V X (d + 1) 131 0 [some (vR 2 0), some (vI p0), some (vI p1), none] [] M Q := wpn_sound (cuts := []) ok131 27 0 _ _ _ h
theorem e131 {X : Cx} {d : Nat} {M M2 : Mem} {p0 p1 : Int32} {r : Int32} (h : V X d 131 0 [some (vR 2 0), some (vI p0), some (vI p1), none] [] M (fun r' M' => r' = (some (vI r)) ∧ M' = M2)) : CC X d 131 [vR 2 0, vI p0, vI p1] M (some (vI r)) M2 := CC_of (by decide) trivial (Nat.le_of_ble_eq_true rfl) (by simp [c1]) h
-- ClayBoots.line, from 0
set_option maxRecDepth 100000 in
theorem w132_0 {X : Cx} {d : Nat} {M : Mem} {Q : Option Vl → Mem → Prop} {p0 p1 : Int32}
    (h : ∃ (r1 : Int32) (M1 : Mem), CC X d 146 [vI p0, vI 1, vI 4] M (some (vI r1)) M1 ∧ (r1 = 0 → Q (some (vI (-1))) M1) ∧ (¬ r1 = 0 → ∃ (r2 : Int32) (M2 : Mem), CC X d 146 [vI p1, vI 0, vI 1] M1 (some (vI r2)) M2 ∧ (r2 = 0 → Q (some (vI (-1))) M2) ∧ (¬ r2 = 0 → (¬ p1 = 0 → ∃ (r3 : Int32) (M3 : Mem), CC X d 78 [vR 70 0, vI p0, vI 0] M2 (some (vI r3)) M3 ∧ Q (some (vI r3)) M3) ∧ (p1 = 0 → ∃ (r4 : Int32) (M4 : Mem), CC X d 78 [vR 70 0, vI p0, vI 1] M2 (some (vI r4)) M4 ∧ Q (some (vI r4)) M4)))) :
    V X (d + 1) 132 0 [some (vR 2 0), some (vI p0), some (vI p1)] [] M Q := wpn_sound (cuts := []) ok132 21 0 _ _ _ h
theorem e132 {X : Cx} {d : Nat} {M M2 : Mem} {p0 p1 : Int32} {r : Int32} (h : V X d 132 0 [some (vR 2 0), some (vI p0), some (vI p1)] [] M (fun r' M' => r' = (some (vI r)) ∧ M' = M2)) : CC X d 132 [vR 2 0, vI p0, vI p1] M (some (vI r)) M2 := CC_of (by decide) trivial (Nat.le_of_ble_eq_true rfl) (by simp [c1]) h
-- ClayBoots.worth, from 0
set_option maxRecDepth 100000 in
theorem w133_0 {X : Cx} {d : Nat} {M : Mem} {Q : Option Vl → Mem → Prop} {p0 : Int32}
    (h : (¬ p0 = (-1) → ∃ (r1 : Int32) (M1 : Mem), CC X d 146 [vI p0, vI 0, vI 99] M (some (vI r1)) M1 ∧ (r1 = 0 → Q (some (vI (-1))) M1) ∧ (¬ r1 = 0 → ∃ (r2 : Int32) (M2 : Mem), CC X d 86 [vR 86 0, vI p0, vI 0] M1 (some (vI r2)) M2 ∧ Q (some (vI r2)) M2)) ∧ (p0 = (-1) → ∃ (r3 : Int32) (M3 : Mem), CC X d 87 [vR 86 0] M (some (vI r3)) M3 ∧ Q (some (vI r3)) M3)) :
    V X (d + 1) 133 0 [some (vR 2 0), some (vI p0)] [] M Q := wpn_sound (cuts := []) ok133 17 0 _ _ _ h
theorem e133 {X : Cx} {d : Nat} {M M2 : Mem} {p0 : Int32} {r : Int32} (h : V X d 133 0 [some (vR 2 0), some (vI p0)] [] M (fun r' M' => r' = (some (vI r)) ∧ M' = M2)) : CC X d 133 [vR 2 0, vI p0] M (some (vI r)) M2 := CC_of (by decide) trivial (Nat.le_of_ble_eq_true rfl) (by simp [c1]) h
-- ClayBoots.fair, from 0
set_option maxRecDepth 100000 in
theorem w134_0 {X : Cx} {d : Nat} {M : Mem} {Q : Option Vl → Mem → Prop} {p0 p1 : Int32}
    (h : ∃ (r1 : Int32) (M1 : Mem), CC X d 146 [vI p0, vI 0, vI 9] M (some (vI r1)) M1 ∧ (r1 = 0 → Q (some (vI (-1))) M1) ∧ (¬ r1 = 0 → ∃ (r2 : Int32) (M2 : Mem), CC X d 146 [vI p1, vI 0, vI 1] M1 (some (vI r2)) M2 ∧ (r2 = 0 → Q (some (vI (-1))) M2) ∧ (¬ r2 = 0 → (¬ p1 = 0 → ∃ (r3 : Int32) (M3 : Mem), CC X d 81 [vR 70 0, vI p0, vI 0] M2 (some (vI r3)) M3 ∧ Q (some (vI r3)) M3) ∧ (p1 = 0 → ∃ (r4 : Int32) (M4 : Mem), CC X d 81 [vR 70 0, vI p0, vI 1] M2 (some (vI r4)) M4 ∧ Q (some (vI r4)) M4)))) :
    V X (d + 1) 134 0 [some (vR 2 0), some (vI p0), some (vI p1)] [] M Q := wpn_sound (cuts := []) ok134 21 0 _ _ _ h
theorem e134 {X : Cx} {d : Nat} {M M2 : Mem} {p0 p1 : Int32} {r : Int32} (h : V X d 134 0 [some (vR 2 0), some (vI p0), some (vI p1)] [] M (fun r' M' => r' = (some (vI r)) ∧ M' = M2)) : CC X d 134 [vR 2 0, vI p0, vI p1] M (some (vI r)) M2 := CC_of (by decide) trivial (Nat.le_of_ble_eq_true rfl) (by simp [c1]) h
-- ClayBoots.offer, from 0
set_option maxRecDepth 100000 in
theorem w135_0 {X : Cx} {d : Nat} {M : Mem} {Q : Option Vl → Mem → Prop} {p0 p1 : Int32}
    (h : (¬ p0 = (-1) → ∃ (r1 : Int32) (M1 : Mem), CC X d 146 [vI p0, vI 0, vI 3] M (some (vI r1)) M1 ∧ (r1 = 0 → ((0 : Int32) = 0 → Q (some (vI (-1))) M1) ∧ (¬ (0 : Int32) = 0 → ∃ (r2 : Int32) (M2 : Mem), CC X d 86 [vR 89 0, vI p0, vI p1] M1 (some (vI r2)) M2 ∧ Q (some (vI r2)) M2)) ∧ (¬ r1 = 0 → ∃ (r3 : Int32) (M3 : Mem), CC X d 146 [vI p1, vI 0, vI 99] M1 (some (vI r3)) M3 ∧ (r3 = 0 → ((0 : Int32) = 0 → Q (some (vI (-1))) M3) ∧ (¬ (0 : Int32) = 0 → ∃ (r4 : Int32) (M4 : Mem), CC X d 86 [vR 89 0, vI p0, vI p1] M3 (some (vI r4)) M4 ∧ Q (some (vI r4)) M4)) ∧ (¬ r3 = 0 → ((1 : Int32) = 0 → Q (some (vI (-1))) M3) ∧ (¬ (1 : Int32) = 0 → ∃ (r5 : Int32) (M5 : Mem), CC X d 86 [vR 89 0, vI p0, vI p1] M3 (some (vI r5)) M5 ∧ Q (some (vI r5)) M5)))) ∧ (p0 = (-1) → ∃ (r6 : Int32) (M6 : Mem), CC X d 87 [vR 89 0] M (some (vI r6)) M6 ∧ Q (some (vI r6)) M6)) :
    V X (d + 1) 135 0 [some (vR 2 0), some (vI p0), some (vI p1), none] [] M Q := wpn_sound (cuts := []) ok135 27 0 _ _ _ h
theorem e135 {X : Cx} {d : Nat} {M M2 : Mem} {p0 p1 : Int32} {r : Int32} (h : V X d 135 0 [some (vR 2 0), some (vI p0), some (vI p1), none] [] M (fun r' M' => r' = (some (vI r)) ∧ M' = M2)) : CC X d 135 [vR 2 0, vI p0, vI p1] M (some (vI r)) M2 := CC_of (by decide) trivial (Nat.le_of_ble_eq_true rfl) (by simp [c1]) h
-- ClayBoots.widow, from 0
set_option maxRecDepth 100000 in
theorem w136_0 {X : Cx} {d : Nat} {M : Mem} {Q : Option Vl → Mem → Prop} {p0 : Int32}
    (h : ((M.1 89 0 0) = 0 → Q (some (vI (-1))) M) ∧ (¬ (M.1 89 0 0) = 0 → ∃ (r1 : Int32) (M1 : Mem), CC X d 146 [vI p0, vI 0, vI 1] M (some (vI r1)) M1 ∧ (¬ r1 = 0 → ∃ (r2 : Int32) (M2 : Mem), CC X d 82 [vR 70 0, vI (-1)] M1 (some (vI r2)) M2 ∧ (¬ p0 = 0 → ∃ (r3 : Int32) (M3 : Mem), CC X d 82 [vR 70 0, vI r2] M2 (some (vI r3)) M3 ∧ ∃ (r4 : Int32) (M4 : Mem), CC X d 83 [vR 70 0, vI r3] M3 (some (vI r4)) M4 ∧ Q (some (vI (if 0 < r4 then r4 else 0))) M4) ∧ (p0 = 0 → Q (some (vI r2)) M2)) ∧ (r1 = 0 → Q (some (vI (-1))) M1))) :
    V X (d + 1) 136 0 [some (vR 2 0), some (vI p0), none] [] M Q := wpn_sound (cuts := []) ok136 28 0 _ _ _ h
theorem e136 {X : Cx} {d : Nat} {M M2 : Mem} {p0 : Int32} {r : Int32} (h : V X d 136 0 [some (vR 2 0), some (vI p0), none] [] M (fun r' M' => r' = (some (vI r)) ∧ M' = M2)) : CC X d 136 [vR 2 0, vI p0] M (some (vI r)) M2 := CC_of (by decide) trivial (Nat.le_of_ble_eq_true rfl) (by simp [c1]) h
-- ClayBoots.span, from 0
set_option maxRecDepth 100000 in
theorem w137_0 {X : Cx} {d : Nat} {M : Mem} {Q : Option Vl → Mem → Prop} {p0 p1 : Int32}
    (h : (¬ p0 = (-1) → ∃ (r1 : Int32) (M1 : Mem), CC X d 56 [vR 20 0, vI p0] M (some (vI r1)) M1 ∧ (r1 = 0 → Q (some (vI (-1))) M1) ∧ (¬ r1 = 0 → ∃ (r2 : Int32) (M2 : Mem), CC X d 56 [vR 20 0, vI p1] M1 (some (vI r2)) M2 ∧ (r2 = 0 → Q (some (vI (-1))) M2) ∧ (¬ r2 = 0 → ∃ (r3 : Int32) (M3 : Mem), CC X d 20 [vR 50 0, vI p0, vI p1, vI (M2.1 20 0 6)] M2 (some (vI r3)) M3 ∧ Q (some (vI r3)) M3))) ∧ (p0 = (-1) → ∃ (r4 : Int32) (M4 : Mem), CC X d 19 [vR 50 0, vI (M.1 20 0 6)] M (some (vI r4)) M4 ∧ Q (some (vI r4)) M4)) :
    V X (d + 1) 137 0 [some (vR 2 0), some (vI p0), some (vI p1)] [] M Q := wpn_sound (cuts := []) ok137 24 0 _ _ _ h
theorem e137 {X : Cx} {d : Nat} {M M2 : Mem} {p0 p1 : Int32} {r : Int32} (h : V X d 137 0 [some (vR 2 0), some (vI p0), some (vI p1)] [] M (fun r' M' => r' = (some (vI r)) ∧ M' = M2)) : CC X d 137 [vR 2 0, vI p0, vI p1] M (some (vI r)) M2 := CC_of (by decide) trivial (Nat.le_of_ble_eq_true rfl) (by simp [c1]) h
-- ClayBoots.later, from 0
set_option maxRecDepth 100000 in
theorem w138_0 {X : Cx} {d : Nat} {M : Mem} {Q : Option Vl → Mem → Prop} {p0 : Int32}
    (h : ∃ (r1 : Int32) (M1 : Mem), CC X d 146 [vI p0, vI 0, vI 2000000000] M (some (vI r1)) M1 ∧ (¬ r1 = 0 → V X (d + 1) 138 33 [none, some (vI p0), some (vI (M1.1 20 0 0)), some (vI 1664525), some (vI 1013904223), some (vI 0)] [] M1 Q) ∧ (r1 = 0 → Q (some (vI 0)) M1)) :
    V X (d + 1) 138 0 [some (vR 2 0), some (vI p0), none, none, none, none] [] M Q := wpn_sound (cuts := [(33, [false, true, true, true, true, true])]) ok138 16 0 _ _ _ h
-- ClayBoots.later, from 33
set_option maxRecDepth 100000 in
theorem w138_33 {X : Cx} {d : Nat} {M : Mem} {Q : Option Vl → Mem → Prop} {x1 x2 x3 x4 x5 : Int32}
    (h : (31 ≤ x5 → Q (some (vI x2)) M) ∧ (¬ 31 ≤ x5 → (¬ ((x1 >>> (x5 &&& 31)) &&& 1) = 1 → V X (d + 1) 138 33 [none, some (vI x1), some (vI x2), some (vI (x3 * x3)), some (vI ((x3 * x4) + x4)), some (vI (x5 + 1))] [] M Q) ∧ (((x1 >>> (x5 &&& 31)) &&& 1) = 1 → V X (d + 1) 138 33 [none, some (vI x1), some (vI ((x3 * x2) + x4)), some (vI (x3 * x3)), some (vI ((x3 * x4) + x4)), some (vI (x5 + 1))] [] M Q))) :
    V X (d + 1) 138 33 [none, some (vI x1), some (vI x2), some (vI x3), some (vI x4), some (vI x5)] [] M Q := wpn_sound (cuts := [(33, [false, true, true, true, true, true])]) ok138 29 33 _ _ _ h
theorem e138 {X : Cx} {d : Nat} {M M2 : Mem} {p0 : Int32} {r : Int32} (h : V X d 138 0 [some (vR 2 0), some (vI p0), none, none, none, none] [] M (fun r' M' => r' = (some (vI r)) ∧ M' = M2)) : CC X d 138 [vR 2 0, vI p0] M (some (vI r)) M2 := CC_of (by decide) trivial (Nat.le_of_ble_eq_true rfl) (by simp [c1]) h
-- ClayBoots.first, from 0
set_option maxRecDepth 100000 in
theorem w139_0 {X : Cx} {d : Nat} {M : Mem} {Q : Option Vl → Mem → Prop} {p0 p1 : Int32}
    (h : ∃ (r1 : Int32) (M1 : Mem), CC X d 146 [vI p0, vI 2, vI 1000] M (some (vI r1)) M1 ∧ (r1 = 0 → Q (some (vI (-1))) M1) ∧ (¬ r1 = 0 → ∃ (r2 : Int32) (M2 : Mem), CC X d 146 [vI p1, vI 1, vI p0] M1 (some (vI r2)) M2 ∧ (¬ r2 = 0 → V X (d + 1) 139 33 [none, some (vI p0), some (vI p1), some (vI (M2.1 20 0 0)), some (vI 1)] [] M2 Q) ∧ (r2 = 0 → Q (some (vI (-1))) M2))) :
    V X (d + 1) 139 0 [some (vR 2 0), some (vI p0), some (vI p1), none, none] [] M Q := wpn_sound (cuts := [(33, [false, true, true, true, true])]) ok139 17 0 _ _ _ h
-- ClayBoots.first, from 33
set_option maxRecDepth 100000 in
theorem w139_33 {X : Cx} {d : Nat} {M : Mem} {Q : Option Vl → Mem → Prop} {x1 x2 x3 x4 : Int32}
    (h : (999 < x4 → Q (some (vI (-1))) M) ∧ (¬ 999 < x4 → ∃ (r1 : Int32) (M1 : Mem), CC X d 147 [vI x3] M (some (vI r1)) M1 ∧ ∃ (r2 : Int32) (M2 : Mem), CC X d 148 [vI r1, vI x1] M1 (some (vI r2)) M2 ∧ (x2 ≤ r2 → V X (d + 1) 139 33 [none, some (vI x1), some (vI x2), some (vI r1), some (vI (x4 + 1))] [] M2 Q) ∧ (¬ x2 ≤ r2 → Q (some (vI x4)) M2))) :
    V X (d + 1) 139 33 [none, some (vI x1), some (vI x2), some (vI x3), some (vI x4)] [] M Q := wpn_sound (cuts := [(33, [false, true, true, true, true])]) ok139 14 33 _ _ _ h
theorem e139 {X : Cx} {d : Nat} {M M2 : Mem} {p0 p1 : Int32} {r : Int32} (h : V X d 139 0 [some (vR 2 0), some (vI p0), some (vI p1), none, none] [] M (fun r' M' => r' = (some (vI r)) ∧ M' = M2)) : CC X d 139 [vR 2 0, vI p0, vI p1] M (some (vI r)) M2 := CC_of (by decide) trivial (Nat.le_of_ble_eq_true rfl) (by simp [c1]) h
-- ClayBoots.worn, from 0
set_option maxRecDepth 100000 in
theorem w140_0 {X : Cx} {d : Nat} {M : Mem} {Q : Option Vl → Mem → Prop} {p0 : Int32}
    (h : (¬ p0 = (-1) → ∃ (r1 : Int32) (M1 : Mem), CC X d 146 [vI p0, vI 0, vI 99] M (some (vI r1)) M1 ∧ (r1 = 0 → Q (some (vI (-1))) M1) ∧ (¬ r1 = 0 → ∃ (r2 : Int32) (M2 : Mem), CC X d 86 [vR 92 0, vI p0, vI 0] M1 (some (vI r2)) M2 ∧ Q (some (vI r2)) M2)) ∧ (p0 = (-1) → ∃ (r3 : Int32) (M3 : Mem), CC X d 87 [vR 92 0] M (some (vI r3)) M3 ∧ Q (some (vI r3)) M3)) :
    V X (d + 1) 140 0 [some (vR 2 0), some (vI p0)] [] M Q := wpn_sound (cuts := []) ok140 17 0 _ _ _ h
theorem e140 {X : Cx} {d : Nat} {M M2 : Mem} {p0 : Int32} {r : Int32} (h : V X d 140 0 [some (vR 2 0), some (vI p0)] [] M (fun r' M' => r' = (some (vI r)) ∧ M' = M2)) : CC X d 140 [vR 2 0, vI p0] M (some (vI r)) M2 := CC_of (by decide) trivial (Nat.le_of_ble_eq_true rfl) (by simp [c1]) h
-- ClayBoots.row, from 0
set_option maxRecDepth 100000 in
theorem w141_0 {X : Cx} {d : Nat} {M : Mem} {Q : Option Vl → Mem → Prop} {p0 : Int32}
    (h : ∃ (r1 : Int32) (M1 : Mem), CC X d 146 [vI p0, vI 0, vI 1] M (some (vI r1)) M1 ∧ (r1 = 0 → Q (some (vI (-1))) M1) ∧ (¬ r1 = 0 → (¬ p0 = 0 → ∃ (r2 : Int32) (M2 : Mem), CC X d 84 [vR 70 0, vI 0] M1 (some (vI r2)) M2 ∧ Q (some (vI r2)) M2) ∧ (p0 = 0 → ∃ (r3 : Int32) (M3 : Mem), CC X d 84 [vR 70 0, vI 1] M1 (some (vI r3)) M3 ∧ Q (some (vI r3)) M3))) :
    V X (d + 1) 141 0 [some (vR 2 0), some (vI p0)] [] M Q := wpn_sound (cuts := []) ok141 15 0 _ _ _ h
theorem e141 {X : Cx} {d : Nat} {M M2 : Mem} {p0 : Int32} {r : Int32} (h : V X d 141 0 [some (vR 2 0), some (vI p0)] [] M (fun r' M' => r' = (some (vI r)) ∧ M' = M2)) : CC X d 141 [vR 2 0, vI p0] M (some (vI r)) M2 := CC_of (by decide) trivial (Nat.le_of_ble_eq_true rfl) (by simp [c1]) h
-- ClayBoots.game, from 0
set_option maxRecDepth 100000 in
theorem w142_0 {X : Cx} {d : Nat} {M : Mem} {Q : Option Vl → Mem → Prop} {p0 : Int32}
    (h : ∃ (r1 : Int32) (M1 : Mem), CC X d 146 [vI p0, vI 0, vI 1] M (some (vI r1)) M1 ∧ (¬ r1 = 0 → V X (d + 1) 142 15 [some (vR 2 0), some (vI p0), some (vI 0), some (vI 0), none, none, none] [] M1 Q) ∧ (r1 = 0 → Q (some (vI (-1))) M1)) :
    V X (d + 1) 142 0 [some (vR 2 0), some (vI p0), none, none, none, none, none] [] M Q := wpn_sound (cuts := [(15, [true, true, true, true, false, false, false]), (53, [true, true, true, true, false, false, false]), (85, [true, true, true, true, true, true, true])]) ok142 10 0 _ _ _ h
-- ClayBoots.game, from 15
set_option maxRecDepth 100000 in
theorem w142_15 {X : Cx} {d : Nat} {M : Mem} {Q : Option Vl → Mem → Prop} {x1 x2 x3 : Int32}
    (h : ((M.1 20 0 6) ≤ x3 → (¬ x2 = 0 → V X (d + 1) 142 53 [some (vR 2 0), some (vI x1), some (vI x2), some (vI 0), none, none, none] [] M Q) ∧ (x2 = 0 → Q (some (vI (-1))) M)) ∧ (¬ (M.1 20 0 6) ≤ x3 → ∃ (r1 : Int32) (M1 : Mem), CC X d 65 [vR 20 0, vI x3] M (some (vI r1)) M1 ∧ ¬ (4 : Int32) = 0 ∧ V X (d + 1) 142 15 [some (vR 2 0), some (vI x1), some (vI (x2 ^^^ (r1 % 4))), some (vI (x3 + 1)), none, none, none] [] M1 Q)) :
    V X (d + 1) 142 15 [some (vR 2 0), some (vI x1), some (vI x2), some (vI x3), none, none, none] [] M Q := wpn_sound (cuts := [(15, [true, true, true, true, false, false, false]), (53, [true, true, true, true, false, false, false]), (85, [true, true, true, true, true, true, true])]) ok142 17 15 _ _ _ h
-- ClayBoots.game, from 53
set_option maxRecDepth 100000 in
theorem w142_53 {X : Cx} {d : Nat} {M : Mem} {Q : Option Vl → Mem → Prop} {x1 x2 x3 : Int32}
    (h : ((M.1 20 0 6) ≤ x3 → Q (some (vI (-1))) M) ∧ (¬ (M.1 20 0 6) ≤ x3 → ∃ (r1 : Int32) (M1 : Mem), CC X d 65 [vR 20 0, vI x3] M (some (vI r1)) M1 ∧ ¬ (4 : Int32) = 0 ∧ V X (d + 1) 142 85 [some (vR 2 0), some (vI x1), some (vI x2), some (vI x3), some (vI r1), some (vI ((r1 % 4) ^^^ x2)), some (vI 1)] [] M1 Q)) :
    V X (d + 1) 142 53 [some (vR 2 0), some (vI x1), some (vI x2), some (vI x3), none, none, none] [] M Q := wpn_sound (cuts := [(15, [true, true, true, true, false, false, false]), (53, [true, true, true, true, false, false, false]), (85, [true, true, true, true, true, true, true])]) ok142 19 53 _ _ _ h
-- ClayBoots.game, from 85
set_option maxRecDepth 100000 in
theorem w142_85 {X : Cx} {d : Nat} {M : Mem} {Q : Option Vl → Mem → Prop} {x1 x2 x3 x4 x5 x6 : Int32}
    (h : (3 < x6 → V X (d + 1) 142 53 [some (vR 2 0), some (vI x1), some (vI x2), some (vI (x3 + 1)), none, none, none] [] M Q) ∧ (¬ 3 < x6 → (x4 < x6 → V X (d + 1) 142 53 [some (vR 2 0), some (vI x1), some (vI x2), some (vI (x3 + 1)), none, none, none] [] M Q) ∧ (¬ x4 < x6 → ¬ (4 : Int32) = 0 ∧ (¬ ((x4 - x6) % 4) = x5 → V X (d + 1) 142 85 [some (vR 2 0), some (vI x1), some (vI x2), some (vI x3), some (vI x4), some (vI x5), some (vI (x6 + 1))] [] M Q) ∧ (((x4 - x6) % 4) = x5 → (¬ x1 = 0 → Q (some (vI x6)) M) ∧ (x1 = 0 → Q (some (vI x3)) M))))) :
    V X (d + 1) 142 85 [some (vR 2 0), some (vI x1), some (vI x2), some (vI x3), some (vI x4), some (vI x5), some (vI x6)] [] M Q := wpn_sound (cuts := [(15, [true, true, true, true, false, false, false]), (53, [true, true, true, true, false, false, false]), (85, [true, true, true, true, true, true, true])]) ok142 19 85 _ _ _ h
theorem e142 {X : Cx} {d : Nat} {M M2 : Mem} {p0 : Int32} {r : Int32} (h : V X d 142 0 [some (vR 2 0), some (vI p0), none, none, none, none, none] [] M (fun r' M' => r' = (some (vI r)) ∧ M' = M2)) : CC X d 142 [vR 2 0, vI p0] M (some (vI r)) M2 := CC_of (by decide) trivial (Nat.le_of_ble_eq_true rfl) (by simp [c1]) h
-- ClayBoots.undo, from 0
set_option maxRecDepth 100000 in
theorem w143_0 {X : Cx} {d : Nat} {M : Mem} {Q : Option Vl → Mem → Prop}
    (h : ∃ (r1 : Int32) (M1 : Mem), CC X d 9 [vR 8 0, vR 20 0] M (some (vI r1)) M1 ∧ isB r1 ∧ Q (some (vI r1)) M1) :
    V X (d + 1) 143 0 [some (vR 2 0)] [] M Q := wpn_sound (cuts := []) ok143 7 0 _ _ _ h
theorem e143 {X : Cx} {d : Nat} {M M2 : Mem} {r : Int32} (h : V X d 143 0 [some (vR 2 0)] [] M (fun r' M' => r' = (some (vI r)) ∧ M' = M2)) : CC X d 143 [vR 2 0] M (some (vI r)) M2 := CC_of (by decide) trivial (Nat.le_of_ble_eq_true rfl) (by simp [c1]) h
-- ClayBoots.image, from 0
set_option maxRecDepth 100000 in
theorem w144_0 {X : Cx} {d : Nat} {M : Mem} {Q : Option Vl → Mem → Prop} {p0 : Int32}
    (h : (p0 = 0 → (¬ (M.1 10 0 0) = 0 → ∃ (M1 : Mem), CC X d 53 [vR 20 0, vR 20 8] M none M1 ∧ ∃ (M2 : Mem), CC X d 2 [vR 40 0, vR 40 2] M1 none M2 ∧ ∃ (M3 : Mem), CC X d 11 [vR 50 0, vR 50 2] M2 none M3 ∧ ∃ (M4 : Mem), CC X d 71 [vR 70 0, vR 70 1] M3 none M4 ∧ ∃ (M5 : Mem), CC X d 10 [vR 8 0] M4 none M5 ∧ isB 1 ∧ Q (some (vI 1)) M5) ∧ ((M.1 10 0 0) = 0 → isB 0 ∧ Q (some (vI 0)) M)) ∧ (¬ p0 = 0 → isB 1 ∧ ∀ M6, M6 = st M 10 0 0 1 → ∃ (M7 : Mem), CC X d 53 [vR 20 8, vR 20 0] M6 none M7 ∧ ∃ (M8 : Mem), CC X d 2 [vR 40 2, vR 40 0] M7 none M8 ∧ ∃ (M9 : Mem), CC X d 11 [vR 50 2, vR 50 0] M8 none M9 ∧ ∃ (M10 : Mem), CC X d 71 [vR 70 1, vR 70 0] M9 none M10 ∧ isB 1 ∧ Q (some (vI 1)) M10)) :
    V X (d + 1) 144 0 [some (vR 2 0), some (vI p0)] [] M Q := wpn_sound (cuts := []) ok144 36 0 _ _ _ h
theorem e144 {X : Cx} {d : Nat} {M M2 : Mem} {p0 : Int32} {r : Int32} (h : V X d 144 0 [some (vR 2 0), some (vI p0)] [] M (fun r' M' => r' = (some (vI r)) ∧ M' = M2)) : CC X d 144 [vR 2 0, vI p0] M (some (vI r)) M2 := CC_of (by decide) trivial (Nat.le_of_ble_eq_true rfl) (by simp [c1]) h
-- ClayBoots.look, from 0
set_option maxRecDepth 100000 in
theorem w145_0 {X : Cx} {d : Nat} {M : Mem} {Q : Option Vl → Mem → Prop} {p0 : Int32}
    (h : (p0 = 0 → Q (some (vI (M.1 20 0 5))) M) ∧ (¬ p0 = 0 → (p0 = 1 → Q (some (vI (M.1 20 0 6))) M) ∧ (¬ p0 = 1 → (p0 = 2 → Q (some (vI (M.1 20 0 7))) M) ∧ (¬ p0 = 2 → (p0 = 3 → Q (some (vI (M.1 20 0 1))) M) ∧ (¬ p0 = 3 → (p0 = 4 → Q (some (vI (M.1 20 0 2))) M) ∧ (¬ p0 = 4 → (p0 = 5 → Q (some (vI (M.1 20 0 3))) M) ∧ (¬ p0 = 5 → (p0 = 6 → Q (some (vI (M.1 20 0 4))) M) ∧ (¬ p0 = 6 → (p0 = 7 → ∃ (r1 : Int32) (M1 : Mem), CC X d 69 [vR 20 0] M (some (vI r1)) M1 ∧ Q (some (vI r1)) M1) ∧ (¬ p0 = 7 → (p0 = 8 → Q (some (vI (M.1 30 0 0))) M) ∧ (¬ p0 = 8 → (p0 = 9 → Q (some (vI (M.1 20 0 0))) M) ∧ (¬ p0 = 9 → (p0 = 10 → Q (some (vI (M.1 40 0 0))) M) ∧ (¬ p0 = 10 → (p0 = 11 → Q (some (vI (M.1 50 0 0))) M) ∧ (¬ p0 = 11 → (p0 = 12 → Q (some (vI (M.1 50 0 1))) M) ∧ (¬ p0 = 12 → (p0 = 13 → Q (some (vI (M.1 50 0 2))) M) ∧ (¬ p0 = 13 → (p0 = 14 → Q (some (vI (M.1 8 0 0))) M) ∧ (¬ p0 = 14 → Q (some (vI (-1))) M)))))))))))))))) :
    V X (d + 1) 145 0 [some (vR 2 0), some (vI p0)] [] M Q := wpn_sound (cuts := []) ok145 8 0 _ _ _ h
theorem e145 {X : Cx} {d : Nat} {M M2 : Mem} {p0 : Int32} {r : Int32} (h : V X d 145 0 [some (vR 2 0), some (vI p0)] [] M (fun r' M' => r' = (some (vI r)) ∧ M' = M2)) : CC X d 145 [vR 2 0, vI p0] M (some (vI r)) M2 := CC_of (by decide) trivial (Nat.le_of_ble_eq_true rfl) (by simp [c1]) h
-- ClayBoots.within, from 0
set_option maxRecDepth 100000 in
theorem w146_0 {X : Cx} {d : Nat} {M : Mem} {Q : Option Vl → Mem → Prop} {p0 p1 p2 : Int32}
    (h : (p0 < p1 → isB 0 ∧ Q (some (vI 0)) M) ∧ (¬ p0 < p1 → (p2 < p0 → isB 0 ∧ Q (some (vI 0)) M) ∧ (¬ p2 < p0 → isB 1 ∧ Q (some (vI 1)) M))) :
    V X (d + 1) 146 0 [some (vI p0), some (vI p1), some (vI p2)] [] M Q := wpn_sound (cuts := []) ok146 10 0 _ _ _ h
theorem e146 {X : Cx} {d : Nat} {M M2 : Mem} {p0 p1 p2 : Int32} {r : Int32} (h : V X d 146 0 [some (vI p0), some (vI p1), some (vI p2)] [] M (fun r' M' => r' = (some (vI r)) ∧ M' = M2)) : CC X d 146 [vI p0, vI p1, vI p2] M (some (vI r)) M2 := CC_of (by decide) trivial (Nat.le_of_ble_eq_true rfl) (by simp [c1]) h
-- ClayBoots.afterDraw, from 0
set_option maxRecDepth 100000 in
theorem w147_0 {X : Cx} {d : Nat} {M : Mem} {Q : Option Vl → Mem → Prop} {p0 : Int32}
    (h : Q (some (vI ((1664525 * p0) + 1013904223))) M) :
    V X (d + 1) 147 0 [some (vI p0)] [] M Q := wpn_sound (cuts := []) ok147 7 0 _ _ _ h
theorem e147 {X : Cx} {d : Nat} {M M2 : Mem} {p0 : Int32} {r : Int32} (h : V X d 147 0 [some (vI p0)] [] M (fun r' M' => r' = (some (vI r)) ∧ M' = M2)) : CC X d 147 [vI p0] M (some (vI r)) M2 := CC_of (by decide) trivial (Nat.le_of_ble_eq_true rfl) (by simp [c1]) h
-- ClayBoots.drawn, from 0
set_option maxRecDepth 100000 in
theorem w148_0 {X : Cx} {d : Nat} {M : Mem} {Q : Option Vl → Mem → Prop} {p0 p1 : Int32}
    (h : (p1 ≤ 0 → Q (some (vI 0)) M) ∧ (¬ p1 ≤ 0 → ¬ p1 = 0 ∧ Q (some (vI (((p0.toUInt32 >>> (Int32.toUInt32 8 &&& Int32.toUInt32 31)).toInt32) % p1))) M)) :
    V X (d + 1) 148 0 [some (vI p0), some (vI p1)] [] M Q := wpn_sound (cuts := []) ok148 10 0 _ _ _ h
theorem e148 {X : Cx} {d : Nat} {M M2 : Mem} {p0 p1 : Int32} {r : Int32} (h : V X d 148 0 [some (vI p0), some (vI p1)] [] M (fun r' M' => r' = (some (vI r)) ∧ M' = M2)) : CC X d 148 [vI p0, vI p1] M (some (vI r)) M2 := CC_of (by decide) trivial (Nat.le_of_ble_eq_true rfl) (by simp [c1]) h
-- ClayBoots.unitOf, from 0
set_option maxRecDepth 100000 in
theorem w149_0 {X : Cx} {d : Nat} {M : Mem} {Q : Option Vl → Mem → Prop} {p0 : Int32}
    (h : V X (d + 1) 149 4 [some (vI p0), some (vI 1), some (vI 1)] [] M Q) :
    V X (d + 1) 149 0 [some (vI p0), none, none] [] M Q := wpn_sound (cuts := [(4, [true, true, true])]) ok149 5 0 _ _ _ h
-- ClayBoots.unitOf, from 4
set_option maxRecDepth 100000 in
theorem w149_4 {X : Cx} {d : Nat} {M : Mem} {Q : Option Vl → Mem → Prop} {x0 x1 x2 : Int32}
    (h : (6 < x2 → Q (some (vI 0)) M) ∧ (¬ 6 < x2 → (x0 < (x1 * 10) → V X (d + 1) 149 4 [some (vI x0), some (vI (x1 * 10)), some (vI (x2 + 1))] [] M Q) ∧ (¬ x0 < (x1 * 10) → ((2 * (x1 * 10)) ≤ x0 → V X (d + 1) 149 4 [some (vI x0), some (vI (x1 * 10)), some (vI (x2 + 1))] [] M Q) ∧ (¬ (2 * (x1 * 10)) ≤ x0 → Q (some (vI (x1 * 10))) M)))) :
    V X (d + 1) 149 4 [some (vI x0), some (vI x1), some (vI x2)] [] M Q := wpn_sound (cuts := [(4, [true, true, true])]) ok149 18 4 _ _ _ h
theorem e149 {X : Cx} {d : Nat} {M M2 : Mem} {p0 : Int32} {r : Int32} (h : V X d 149 0 [some (vI p0), none, none] [] M (fun r' M' => r' = (some (vI r)) ∧ M' = M2)) : CC X d 149 [vI p0] M (some (vI r)) M2 := CC_of (by decide) trivial (Nat.le_of_ble_eq_true rfl) (by simp [c1]) h
