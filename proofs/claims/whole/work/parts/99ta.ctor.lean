/-! constructors -/
abbrev T_Book : Type := Nat
def oBook (u : T_Book) : List Value := [.int 0, .ref u]
def mkBook (X : Cx) (u : T_Book) : va_W := (([] : va_W) ++ [(u, jar X 600)])
set_option maxRecDepth 100000 in
set_option maxHeartbeats 4000000 in
theorem ci_Book {X : Cx} {base : Nat} : CI X base ⟨"ClayBoots$Book", "<init>", "()V"⟩ prog_2_method_1_code 1 { frames := 1, cells := 1, slots := 600, locals := 100 } 0 [.int 0, .null] [] 1 600 (oBook) (mkBook X) := by
  refine CI_of (by decide +kernel) rfl ?_
  intro ws k a hk p e s m below meth c C hP hD
  have hS : va_S (jA base) s.heap s.heap [] := va_S.rf
  have hl := lv_entry ([.ref a]) (n := 1) (Nat.le_of_ble_eq_true rfl)
  rw [lg_entry_eq]
  generalize (lg_sl ([.ref a]) ++ List.replicate (1 - (lg_sl ([.ref a])).length) Slot.unset).toArray = ls at hl ⊢
  have hl : lv_has ls 1 [(0, .ref a)] := hl
  refine lv_aload_n C.1 C.2.1 (show decode prog_2_method_1_code 0 = .ok (.aload_n 0, 1) from by decide +kernel) rfl (lv_at hl 0 rfl) ?_
  refine j_obj C hl.1 (qgw_of (i := 152) rfl rfl) (by decide) (by decide) (show decode prog_2_method_1_code 1 = .ok (.invokespecial 3, 3) from by decide +kernel) ?_
  refine lv_aload_n C.1 C.2.1 (show decode prog_2_method_1_code 4 = .ok (.aload_n 0, 1) from by decide +kernel) rfl (lv_at hl 0 rfl) ?_
  refine lv_sipush (v := 600) C.1 C.2.1 (show decode prog_2_method_1_code 5 = .ok (.sipush 600, 3) from by decide +kernel) (by decide) ?_
  refine j_newI C hP hD hS 600 (by decide) (by decide) (by decide) (cells' := 1) (slots' := 600) (by decide) (by decide) (by decide) (by decide) (show decode prog_2_method_1_code 8 = .ok (.newarray .int, 2) from by decide +kernel) (fun q0 H hP hD hS => ?_)
  refine j_put (fs' := [.int 0, .ref q0]) C hP hD hS hk 1 (by decide) (by decide) (qgw_of (i := 155) rfl rfl) rfl rfl (by rw [qy_0_1]; rfl) (by rw [qy_0_1]; rfl) (Nat.le_of_ble_eq_true rfl) rfl (show decode prog_2_method_1_code 10 = .ok (.putfield 9, 3) from by decide +kernel) (fun H locs hP hD hS => ?_)
  exact j_ret (o := oBook) (mk := mkBook X) C (q0) hP hD hS (show decode prog_2_method_1_code 13 = .ok (.return_, 1) from by decide +kernel)
abbrev T_Shire : Type := Nat × Nat × Nat × Nat × Nat × Nat × Nat × Nat × Nat × Nat × T_Book
def oShire (u : T_Shire) : List Value := [.int 0, .int 0, .int 0, .int 0, .int 0, .int 0, .int 0, .int 0, .ref u.1, .ref u.2.1, .ref u.2.2.1, .ref u.2.2.2.1, .ref u.2.2.2.2.1, .ref u.2.2.2.2.2.1, .ref u.2.2.2.2.2.2.1, .ref u.2.2.2.2.2.2.2.1, .ref u.2.2.2.2.2.2.2.2.1, .ref u.2.2.2.2.2.2.2.2.2.1]
def mkShire (X : Cx) (u : T_Shire) : va_W := ((((((((((([] : va_W) ++ [(u.1, jar X 10)]) ++ [(u.2.1, jar X 10)]) ++ [(u.2.2.1, jar X 8)]) ++ [(u.2.2.2.1, jar X 80)]) ++ [(u.2.2.2.2.1, jar X 12)]) ++ [(u.2.2.2.2.2.1, jar X 12)]) ++ [(u.2.2.2.2.2.2.1, jar X 12)]) ++ [(u.2.2.2.2.2.2.2.1, jar X 12)]) ++ [(u.2.2.2.2.2.2.2.2.1, jar X 120)]) ++ (u.2.2.2.2.2.2.2.2.2.1, .inr (0, oBook u.2.2.2.2.2.2.2.2.2.2)) :: mkBook X u.2.2.2.2.2.2.2.2.2.2)
set_option maxRecDepth 100000 in
set_option maxHeartbeats 4000000 in
theorem ci_Shire {X : Cx} {base : Nat} : CI X base ⟨"ClayBoots$Shire", "<init>", "()V"⟩ prog_8_method_1_code 1 { frames := 2, cells := 11, slots := 878, locals := 200 } 6 [.int 0, .int 0, .int 0, .int 0, .int 0, .int 0, .int 0, .int 0, .null, .null, .null, .null, .null, .null, .null, .null, .null, .null] [] 11 878 (oShire) (mkShire X) := by
  refine CI_of (by decide +kernel) rfl ?_
  intro ws k a hk p e s m below meth c C hP hD
  have hS : va_S (jA base) s.heap s.heap [] := va_S.rf
  have hl := lv_entry ([.ref a]) (n := 1) (Nat.le_of_ble_eq_true rfl)
  rw [lg_entry_eq]
  generalize (lg_sl ([.ref a]) ++ List.replicate (1 - (lg_sl ([.ref a])).length) Slot.unset).toArray = ls at hl ⊢
  have hl : lv_has ls 1 [(0, .ref a)] := hl
  refine lv_aload_n C.1 C.2.1 (show decode prog_8_method_1_code 0 = .ok (.aload_n 0, 1) from by decide +kernel) rfl (lv_at hl 0 rfl) ?_
  refine j_obj C hl.1 (qgw_of (i := 146) rfl rfl) (by decide) (by decide) (show decode prog_8_method_1_code 1 = .ok (.invokespecial 3, 3) from by decide +kernel) ?_
  refine lv_aload_n C.1 C.2.1 (show decode prog_8_method_1_code 4 = .ok (.aload_n 0, 1) from by decide +kernel) rfl (lv_at hl 0 rfl) ?_
  refine lv_bipush (v := 10) C.1 C.2.1 (show decode prog_8_method_1_code 5 = .ok (.bipush 10, 2) from by decide +kernel) (by decide) ?_
  refine j_newI C hP hD hS 10 (by decide) (by decide) (by decide) (cells' := 1) (slots' := 10) (by decide) (by decide) (by decide) (by decide) (show decode prog_8_method_1_code 7 = .ok (.newarray .int, 2) from by decide +kernel) (fun q0 H hP hD hS => ?_)
  refine j_put (fs' := [.int 0, .int 0, .int 0, .int 0, .int 0, .int 0, .int 0, .int 0, .ref q0, .null, .null, .null, .null, .null, .null, .null, .null, .null]) C hP hD hS hk 8 (by decide) (by decide) (qgw_of (i := 192) rfl rfl) rfl rfl (by rw [qy_6_8]; rfl) (by rw [qy_6_8]; rfl) (Nat.le_of_ble_eq_true rfl) rfl (show decode prog_8_method_1_code 9 = .ok (.putfield 9, 3) from by decide +kernel) (fun H locs hP hD hS => ?_)
  refine lv_aload_n C.1 C.2.1 (show decode prog_8_method_1_code 12 = .ok (.aload_n 0, 1) from by decide +kernel) rfl (lv_at hl 0 rfl) ?_
  refine lv_bipush (v := 10) C.1 C.2.1 (show decode prog_8_method_1_code 13 = .ok (.bipush 10, 2) from by decide +kernel) (by decide) ?_
  refine j_newI C hP hD hS 10 (by decide) (by decide) (by decide) (cells' := 2) (slots' := 20) (by decide) (by decide) (by decide) (by decide) (show decode prog_8_method_1_code 15 = .ok (.newarray .int, 2) from by decide +kernel) (fun q1 H hP hD hS => ?_)
  refine j_put (fs' := [.int 0, .int 0, .int 0, .int 0, .int 0, .int 0, .int 0, .int 0, .ref q0, .ref q1, .null, .null, .null, .null, .null, .null, .null, .null]) C hP hD hS hk 9 (by decide) (by decide) (qgw_of (i := 196) rfl rfl) rfl rfl (by rw [qy_6_9]; rfl) (by rw [qy_6_9]; rfl) (Nat.le_of_ble_eq_true rfl) rfl (show decode prog_8_method_1_code 17 = .ok (.putfield 15, 3) from by decide +kernel) (fun H locs hP hD hS => ?_)
  refine lv_aload_n C.1 C.2.1 (show decode prog_8_method_1_code 20 = .ok (.aload_n 0, 1) from by decide +kernel) rfl (lv_at hl 0 rfl) ?_
  refine lv_bipush (v := 8) C.1 C.2.1 (show decode prog_8_method_1_code 21 = .ok (.bipush 8, 2) from by decide +kernel) (by decide) ?_
  refine j_newI C hP hD hS 8 (by decide) (by decide) (by decide) (cells' := 3) (slots' := 28) (by decide) (by decide) (by decide) (by decide) (show decode prog_8_method_1_code 23 = .ok (.newarray .int, 2) from by decide +kernel) (fun q2 H hP hD hS => ?_)
  refine j_put (fs' := [.int 0, .int 0, .int 0, .int 0, .int 0, .int 0, .int 0, .int 0, .ref q0, .ref q1, .ref q2, .null, .null, .null, .null, .null, .null, .null]) C hP hD hS hk 10 (by decide) (by decide) (qgw_of (i := 200) rfl rfl) rfl rfl (by rw [qy_6_10]; rfl) (by rw [qy_6_10]; rfl) (Nat.le_of_ble_eq_true rfl) rfl (show decode prog_8_method_1_code 25 = .ok (.putfield 18, 3) from by decide +kernel) (fun H locs hP hD hS => ?_)
  refine lv_aload_n C.1 C.2.1 (show decode prog_8_method_1_code 28 = .ok (.aload_n 0, 1) from by decide +kernel) rfl (lv_at hl 0 rfl) ?_
  refine lv_bipush (v := 80) C.1 C.2.1 (show decode prog_8_method_1_code 29 = .ok (.bipush 80, 2) from by decide +kernel) (by decide) ?_
  refine j_newI C hP hD hS 80 (by decide) (by decide) (by decide) (cells' := 4) (slots' := 108) (by decide) (by decide) (by decide) (by decide) (show decode prog_8_method_1_code 31 = .ok (.newarray .int, 2) from by decide +kernel) (fun q3 H hP hD hS => ?_)
  refine j_put (fs' := [.int 0, .int 0, .int 0, .int 0, .int 0, .int 0, .int 0, .int 0, .ref q0, .ref q1, .ref q2, .ref q3, .null, .null, .null, .null, .null, .null]) C hP hD hS hk 11 (by decide) (by decide) (qgw_of (i := 203) rfl rfl) rfl rfl (by rw [qy_6_11]; rfl) (by rw [qy_6_11]; rfl) (Nat.le_of_ble_eq_true rfl) rfl (show decode prog_8_method_1_code 33 = .ok (.putfield 21, 3) from by decide +kernel) (fun H locs hP hD hS => ?_)
  refine lv_aload_n C.1 C.2.1 (show decode prog_8_method_1_code 36 = .ok (.aload_n 0, 1) from by decide +kernel) rfl (lv_at hl 0 rfl) ?_
  refine lv_bipush (v := 12) C.1 C.2.1 (show decode prog_8_method_1_code 37 = .ok (.bipush 12, 2) from by decide +kernel) (by decide) ?_
  refine j_newI C hP hD hS 12 (by decide) (by decide) (by decide) (cells' := 5) (slots' := 120) (by decide) (by decide) (by decide) (by decide) (show decode prog_8_method_1_code 39 = .ok (.newarray .int, 2) from by decide +kernel) (fun q4 H hP hD hS => ?_)
  refine j_put (fs' := [.int 0, .int 0, .int 0, .int 0, .int 0, .int 0, .int 0, .int 0, .ref q0, .ref q1, .ref q2, .ref q3, .ref q4, .null, .null, .null, .null, .null]) C hP hD hS hk 12 (by decide) (by decide) (qgw_of (i := 206) rfl rfl) rfl rfl (by rw [qy_6_12]; rfl) (by rw [qy_6_12]; rfl) (Nat.le_of_ble_eq_true rfl) rfl (show decode prog_8_method_1_code 41 = .ok (.putfield 24, 3) from by decide +kernel) (fun H locs hP hD hS => ?_)
  refine lv_aload_n C.1 C.2.1 (show decode prog_8_method_1_code 44 = .ok (.aload_n 0, 1) from by decide +kernel) rfl (lv_at hl 0 rfl) ?_
  refine lv_bipush (v := 12) C.1 C.2.1 (show decode prog_8_method_1_code 45 = .ok (.bipush 12, 2) from by decide +kernel) (by decide) ?_
  refine j_newI C hP hD hS 12 (by decide) (by decide) (by decide) (cells' := 6) (slots' := 132) (by decide) (by decide) (by decide) (by decide) (show decode prog_8_method_1_code 47 = .ok (.newarray .int, 2) from by decide +kernel) (fun q5 H hP hD hS => ?_)
  refine j_put (fs' := [.int 0, .int 0, .int 0, .int 0, .int 0, .int 0, .int 0, .int 0, .ref q0, .ref q1, .ref q2, .ref q3, .ref q4, .ref q5, .null, .null, .null, .null]) C hP hD hS hk 13 (by decide) (by decide) (qgw_of (i := 209) rfl rfl) rfl rfl (by rw [qy_6_13]; rfl) (by rw [qy_6_13]; rfl) (Nat.le_of_ble_eq_true rfl) rfl (show decode prog_8_method_1_code 49 = .ok (.putfield 27, 3) from by decide +kernel) (fun H locs hP hD hS => ?_)
  refine lv_aload_n C.1 C.2.1 (show decode prog_8_method_1_code 52 = .ok (.aload_n 0, 1) from by decide +kernel) rfl (lv_at hl 0 rfl) ?_
  refine lv_bipush (v := 12) C.1 C.2.1 (show decode prog_8_method_1_code 53 = .ok (.bipush 12, 2) from by decide +kernel) (by decide) ?_
  refine j_newI C hP hD hS 12 (by decide) (by decide) (by decide) (cells' := 7) (slots' := 144) (by decide) (by decide) (by decide) (by decide) (show decode prog_8_method_1_code 55 = .ok (.newarray .int, 2) from by decide +kernel) (fun q6 H hP hD hS => ?_)
  refine j_put (fs' := [.int 0, .int 0, .int 0, .int 0, .int 0, .int 0, .int 0, .int 0, .ref q0, .ref q1, .ref q2, .ref q3, .ref q4, .ref q5, .ref q6, .null, .null, .null]) C hP hD hS hk 14 (by decide) (by decide) (qgw_of (i := 212) rfl rfl) rfl rfl (by rw [qy_6_14]; rfl) (by rw [qy_6_14]; rfl) (Nat.le_of_ble_eq_true rfl) rfl (show decode prog_8_method_1_code 57 = .ok (.putfield 30, 3) from by decide +kernel) (fun H locs hP hD hS => ?_)
  refine lv_aload_n C.1 C.2.1 (show decode prog_8_method_1_code 60 = .ok (.aload_n 0, 1) from by decide +kernel) rfl (lv_at hl 0 rfl) ?_
  refine lv_bipush (v := 12) C.1 C.2.1 (show decode prog_8_method_1_code 61 = .ok (.bipush 12, 2) from by decide +kernel) (by decide) ?_
  refine j_newI C hP hD hS 12 (by decide) (by decide) (by decide) (cells' := 8) (slots' := 156) (by decide) (by decide) (by decide) (by decide) (show decode prog_8_method_1_code 63 = .ok (.newarray .int, 2) from by decide +kernel) (fun q7 H hP hD hS => ?_)
  refine j_put (fs' := [.int 0, .int 0, .int 0, .int 0, .int 0, .int 0, .int 0, .int 0, .ref q0, .ref q1, .ref q2, .ref q3, .ref q4, .ref q5, .ref q6, .ref q7, .null, .null]) C hP hD hS hk 15 (by decide) (by decide) (qgw_of (i := 215) rfl rfl) rfl rfl (by rw [qy_6_15]; rfl) (by rw [qy_6_15]; rfl) (Nat.le_of_ble_eq_true rfl) rfl (show decode prog_8_method_1_code 65 = .ok (.putfield 33, 3) from by decide +kernel) (fun H locs hP hD hS => ?_)
  refine lv_aload_n C.1 C.2.1 (show decode prog_8_method_1_code 68 = .ok (.aload_n 0, 1) from by decide +kernel) rfl (lv_at hl 0 rfl) ?_
  refine lv_bipush (v := 120) C.1 C.2.1 (show decode prog_8_method_1_code 69 = .ok (.bipush 120, 2) from by decide +kernel) (by decide) ?_
  refine j_newI C hP hD hS 120 (by decide) (by decide) (by decide) (cells' := 9) (slots' := 276) (by decide) (by decide) (by decide) (by decide) (show decode prog_8_method_1_code 71 = .ok (.newarray .int, 2) from by decide +kernel) (fun q8 H hP hD hS => ?_)
  refine j_put (fs' := [.int 0, .int 0, .int 0, .int 0, .int 0, .int 0, .int 0, .int 0, .ref q0, .ref q1, .ref q2, .ref q3, .ref q4, .ref q5, .ref q6, .ref q7, .ref q8, .null]) C hP hD hS hk 16 (by decide) (by decide) (qgw_of (i := 218) rfl rfl) rfl rfl (by rw [qy_6_16]; rfl) (by rw [qy_6_16]; rfl) (Nat.le_of_ble_eq_true rfl) rfl (show decode prog_8_method_1_code 73 = .ok (.putfield 36, 3) from by decide +kernel) (fun H locs hP hD hS => ?_)
  refine lv_aload_n C.1 C.2.1 (show decode prog_8_method_1_code 76 = .ok (.aload_n 0, 1) from by decide +kernel) rfl (lv_at hl 0 rfl) ?_
  refine j_newc C hP hD hS 0 2 (by decide) (by decide) qdf_0 (qgw_of (i := 147) rfl rfl) (qgw_of (i := 148) rfl rfl) (qgw_of (i := 116) rfl rfl) (cells' := 10) (slots' := 278) (by decide) (by decide) (by decide) (by decide) (show decode prog_8_method_1_code 77 = .ok (.new 39, 3) from by decide +kernel) (fun q9 H hP hD hS => ?_)
  refine lv_dup C.1 C.2.1 (show decode prog_8_method_1_code 80 = .ok (.dup, 1) from by decide +kernel) rfl ?_
  refine j_call (as := []) (rest := [.ref q9, .ref a]) C hl.1 hP hD hS (ci_Book (X := X) (base := base)) (index := 41) (n := 0) (Or.inr (by decide +kernel)) (qgw_of (i := 151) rfl rfl) (qgw_of (i := 116) rfl rfl) (qgw_of (i := 150) rfl rfl) rfl ⟨by decide, by decide, by decide +kernel⟩ rfl rfl rfl ⟨by decide, by decide⟩ (cells' := 11) (slots' := 878) (by decide) (by decide) (by decide) (by decide) rfl (Nat.le_of_ble_eq_true rfl) (show decode prog_8_method_1_code 81 = .ok (.invokespecial 41, 3) from by decide +kernel) (fun u10 H locs hP hD hS => ?_)
  refine j_put (fs' := [.int 0, .int 0, .int 0, .int 0, .int 0, .int 0, .int 0, .int 0, .ref q0, .ref q1, .ref q2, .ref q3, .ref q4, .ref q5, .ref q6, .ref q7, .ref q8, .ref q9]) C hP hD hS hk 17 (by decide) (by decide) (qgw_of (i := 221) rfl rfl) rfl rfl (by rw [qy_6_17]; rfl) (by rw [qy_6_17]; rfl) (Nat.le_of_ble_eq_true rfl) rfl (show decode prog_8_method_1_code 84 = .ok (.putfield 42, 3) from by decide +kernel) (fun H locs hP hD hS => ?_)
  exact j_ret (o := oShire) (mk := mkShire X) C (q0, q1, q2, q3, q4, q5, q6, q7, q8, q9, u10) hP hD hS (show decode prog_8_method_1_code 87 = .ok (.return_, 1) from by decide +kernel)
abbrev T_Law : Type := Nat × Nat × Nat × Nat × Nat × Nat
def oLaw (u : T_Law) : List Value := [.int 0, .int 0, .ref u.1, .ref u.2.1, .ref u.2.2.1, .ref u.2.2.2.1, .ref u.2.2.2.2.1, .ref u.2.2.2.2.2]
def mkLaw (X : Cx) (u : T_Law) : va_W := ((((((([] : va_W) ++ [(u.1, jar X 16)]) ++ [(u.2.1, jar X 16)]) ++ [(u.2.2.1, jar X 16)]) ++ [(u.2.2.2.1, jar X 16)]) ++ [(u.2.2.2.2.1, jar X 400)]) ++ [(u.2.2.2.2.2, jar X 32)])
set_option maxRecDepth 100000 in
set_option maxHeartbeats 4000000 in
theorem ci_Law {X : Cx} {base : Nat} : CI X base ⟨"ClayBoots$Law", "<init>", "()V"⟩ prog_4_method_1_code 1 { frames := 1, cells := 6, slots := 496, locals := 100 } 2 [.int 0, .int 0, .null, .null, .null, .null, .null, .null] [] 6 496 (oLaw) (mkLaw X) := by
  refine CI_of (by decide +kernel) rfl ?_
  intro ws k a hk p e s m below meth c C hP hD
  have hS : va_S (jA base) s.heap s.heap [] := va_S.rf
  have hl := lv_entry ([.ref a]) (n := 1) (Nat.le_of_ble_eq_true rfl)
  rw [lg_entry_eq]
  generalize (lg_sl ([.ref a]) ++ List.replicate (1 - (lg_sl ([.ref a])).length) Slot.unset).toArray = ls at hl ⊢
  have hl : lv_has ls 1 [(0, .ref a)] := hl
  refine lv_aload_n C.1 C.2.1 (show decode prog_4_method_1_code 0 = .ok (.aload_n 0, 1) from by decide +kernel) rfl (lv_at hl 0 rfl) ?_
  refine j_obj C hl.1 (qgw_of (i := 266) rfl rfl) (by decide) (by decide) (show decode prog_4_method_1_code 1 = .ok (.invokespecial 3, 3) from by decide +kernel) ?_
  refine lv_aload_n C.1 C.2.1 (show decode prog_4_method_1_code 4 = .ok (.aload_n 0, 1) from by decide +kernel) rfl (lv_at hl 0 rfl) ?_
  refine lv_bipush (v := 16) C.1 C.2.1 (show decode prog_4_method_1_code 5 = .ok (.bipush 16, 2) from by decide +kernel) (by decide) ?_
  refine j_newI C hP hD hS 16 (by decide) (by decide) (by decide) (cells' := 1) (slots' := 16) (by decide) (by decide) (by decide) (by decide) (show decode prog_4_method_1_code 7 = .ok (.newarray .int, 2) from by decide +kernel) (fun q0 H hP hD hS => ?_)
  refine j_put (fs' := [.int 0, .int 0, .ref q0, .null, .null, .null, .null, .null]) C hP hD hS hk 2 (by decide) (by decide) (qgw_of (i := 272) rfl rfl) rfl rfl (by rw [qy_2_2]; rfl) (by rw [qy_2_2]; rfl) (Nat.le_of_ble_eq_true rfl) rfl (show decode prog_4_method_1_code 9 = .ok (.putfield 9, 3) from by decide +kernel) (fun H locs hP hD hS => ?_)
  refine lv_aload_n C.1 C.2.1 (show decode prog_4_method_1_code 12 = .ok (.aload_n 0, 1) from by decide +kernel) rfl (lv_at hl 0 rfl) ?_
  refine lv_bipush (v := 16) C.1 C.2.1 (show decode prog_4_method_1_code 13 = .ok (.bipush 16, 2) from by decide +kernel) (by decide) ?_
  refine j_newI C hP hD hS 16 (by decide) (by decide) (by decide) (cells' := 2) (slots' := 32) (by decide) (by decide) (by decide) (by decide) (show decode prog_4_method_1_code 15 = .ok (.newarray .int, 2) from by decide +kernel) (fun q1 H hP hD hS => ?_)
  refine j_put (fs' := [.int 0, .int 0, .ref q0, .ref q1, .null, .null, .null, .null]) C hP hD hS hk 3 (by decide) (by decide) (qgw_of (i := 274) rfl rfl) rfl rfl (by rw [qy_2_3]; rfl) (by rw [qy_2_3]; rfl) (Nat.le_of_ble_eq_true rfl) rfl (show decode prog_4_method_1_code 17 = .ok (.putfield 15, 3) from by decide +kernel) (fun H locs hP hD hS => ?_)
  refine lv_aload_n C.1 C.2.1 (show decode prog_4_method_1_code 20 = .ok (.aload_n 0, 1) from by decide +kernel) rfl (lv_at hl 0 rfl) ?_
  refine lv_bipush (v := 16) C.1 C.2.1 (show decode prog_4_method_1_code 21 = .ok (.bipush 16, 2) from by decide +kernel) (by decide) ?_
  refine j_newI C hP hD hS 16 (by decide) (by decide) (by decide) (cells' := 3) (slots' := 48) (by decide) (by decide) (by decide) (by decide) (show decode prog_4_method_1_code 23 = .ok (.newarray .int, 2) from by decide +kernel) (fun q2 H hP hD hS => ?_)
  refine j_put (fs' := [.int 0, .int 0, .ref q0, .ref q1, .ref q2, .null, .null, .null]) C hP hD hS hk 4 (by decide) (by decide) (qgw_of (i := 276) rfl rfl) rfl rfl (by rw [qy_2_4]; rfl) (by rw [qy_2_4]; rfl) (Nat.le_of_ble_eq_true rfl) rfl (show decode prog_4_method_1_code 25 = .ok (.putfield 18, 3) from by decide +kernel) (fun H locs hP hD hS => ?_)
  refine lv_aload_n C.1 C.2.1 (show decode prog_4_method_1_code 28 = .ok (.aload_n 0, 1) from by decide +kernel) rfl (lv_at hl 0 rfl) ?_
  refine lv_bipush (v := 16) C.1 C.2.1 (show decode prog_4_method_1_code 29 = .ok (.bipush 16, 2) from by decide +kernel) (by decide) ?_
  refine j_newI C hP hD hS 16 (by decide) (by decide) (by decide) (cells' := 4) (slots' := 64) (by decide) (by decide) (by decide) (by decide) (show decode prog_4_method_1_code 31 = .ok (.newarray .int, 2) from by decide +kernel) (fun q3 H hP hD hS => ?_)
  refine j_put (fs' := [.int 0, .int 0, .ref q0, .ref q1, .ref q2, .ref q3, .null, .null]) C hP hD hS hk 5 (by decide) (by decide) (qgw_of (i := 278) rfl rfl) rfl rfl (by rw [qy_2_5]; rfl) (by rw [qy_2_5]; rfl) (Nat.le_of_ble_eq_true rfl) rfl (show decode prog_4_method_1_code 33 = .ok (.putfield 21, 3) from by decide +kernel) (fun H locs hP hD hS => ?_)
  refine lv_aload_n C.1 C.2.1 (show decode prog_4_method_1_code 36 = .ok (.aload_n 0, 1) from by decide +kernel) rfl (lv_at hl 0 rfl) ?_
  refine lv_sipush (v := 400) C.1 C.2.1 (show decode prog_4_method_1_code 37 = .ok (.sipush 400, 3) from by decide +kernel) (by decide) ?_
  refine j_newI C hP hD hS 400 (by decide) (by decide) (by decide) (cells' := 5) (slots' := 464) (by decide) (by decide) (by decide) (by decide) (show decode prog_4_method_1_code 40 = .ok (.newarray .int, 2) from by decide +kernel) (fun q4 H hP hD hS => ?_)
  refine j_put (fs' := [.int 0, .int 0, .ref q0, .ref q1, .ref q2, .ref q3, .ref q4, .null]) C hP hD hS hk 6 (by decide) (by decide) (qgw_of (i := 280) rfl rfl) rfl rfl (by rw [qy_2_6]; rfl) (by rw [qy_2_6]; rfl) (Nat.le_of_ble_eq_true rfl) rfl (show decode prog_4_method_1_code 42 = .ok (.putfield 24, 3) from by decide +kernel) (fun H locs hP hD hS => ?_)
  refine lv_aload_n C.1 C.2.1 (show decode prog_4_method_1_code 45 = .ok (.aload_n 0, 1) from by decide +kernel) rfl (lv_at hl 0 rfl) ?_
  refine lv_bipush (v := 32) C.1 C.2.1 (show decode prog_4_method_1_code 46 = .ok (.bipush 32, 2) from by decide +kernel) (by decide) ?_
  refine j_newI C hP hD hS 32 (by decide) (by decide) (by decide) (cells' := 6) (slots' := 496) (by decide) (by decide) (by decide) (by decide) (show decode prog_4_method_1_code 48 = .ok (.newarray .int, 2) from by decide +kernel) (fun q5 H hP hD hS => ?_)
  refine j_put (fs' := [.int 0, .int 0, .ref q0, .ref q1, .ref q2, .ref q3, .ref q4, .ref q5]) C hP hD hS hk 7 (by decide) (by decide) (qgw_of (i := 281) rfl rfl) rfl rfl (by rw [qy_2_7]; rfl) (by rw [qy_2_7]; rfl) (Nat.le_of_ble_eq_true rfl) rfl (show decode prog_4_method_1_code 50 = .ok (.putfield 27, 3) from by decide +kernel) (fun H locs hP hD hS => ?_)
  exact j_ret (o := oLaw) (mk := mkLaw X) C (q0, q1, q2, q3, q4, q5) hP hD hS (show decode prog_4_method_1_code 53 = .ok (.return_, 1) from by decide +kernel)
abbrev T_Plans : Type := Nat × Nat × Nat × Nat × Nat × Nat × Nat × Nat × Nat
def oPlans (u : T_Plans) : List Value := [.int 0, .int 0, .int 0, .ref u.1, .ref u.2.1, .ref u.2.2.1, .ref u.2.2.2.1, .ref u.2.2.2.2.1, .ref u.2.2.2.2.2.1, .ref u.2.2.2.2.2.2.1, .ref u.2.2.2.2.2.2.2.1, .ref u.2.2.2.2.2.2.2.2]
def mkPlans (X : Cx) (u : T_Plans) : va_W := (((((((((([] : va_W) ++ [(u.1, jar X 16)]) ++ [(u.2.1, jar X 16)]) ++ [(u.2.2.1, jar X 16)]) ++ [(u.2.2.2.1, jar X 16)]) ++ [(u.2.2.2.2.1, jar X 16)]) ++ [(u.2.2.2.2.2.1, jar X 16)]) ++ [(u.2.2.2.2.2.2.1, jar X 64)]) ++ [(u.2.2.2.2.2.2.2.1, jar X 8)]) ++ [(u.2.2.2.2.2.2.2.2, jaz X 8)])
set_option maxRecDepth 100000 in
set_option maxHeartbeats 4000000 in
theorem ci_Plans {X : Cx} {base : Nat} : CI X base ⟨"ClayBoots$Plans", "<init>", "()V"⟩ prog_6_method_1_code 1 { frames := 1, cells := 9, slots := 176, locals := 100 } 4 [.int 0, .int 0, .int 0, .null, .null, .null, .null, .null, .null, .null, .null, .null] [] 9 176 (oPlans) (mkPlans X) := by
  refine CI_of (by decide +kernel) rfl ?_
  intro ws k a hk p e s m below meth c C hP hD
  have hS : va_S (jA base) s.heap s.heap [] := va_S.rf
  have hl := lv_entry ([.ref a]) (n := 1) (Nat.le_of_ble_eq_true rfl)
  rw [lg_entry_eq]
  generalize (lg_sl ([.ref a]) ++ List.replicate (1 - (lg_sl ([.ref a])).length) Slot.unset).toArray = ls at hl ⊢
  have hl : lv_has ls 1 [(0, .ref a)] := hl
  refine lv_aload_n C.1 C.2.1 (show decode prog_6_method_1_code 0 = .ok (.aload_n 0, 1) from by decide +kernel) rfl (lv_at hl 0 rfl) ?_
  refine j_obj C hl.1 (qgw_of (i := 304) rfl rfl) (by decide) (by decide) (show decode prog_6_method_1_code 1 = .ok (.invokespecial 3, 3) from by decide +kernel) ?_
  refine lv_aload_n C.1 C.2.1 (show decode prog_6_method_1_code 4 = .ok (.aload_n 0, 1) from by decide +kernel) rfl (lv_at hl 0 rfl) ?_
  refine lv_bipush (v := 16) C.1 C.2.1 (show decode prog_6_method_1_code 5 = .ok (.bipush 16, 2) from by decide +kernel) (by decide) ?_
  refine j_newI C hP hD hS 16 (by decide) (by decide) (by decide) (cells' := 1) (slots' := 16) (by decide) (by decide) (by decide) (by decide) (show decode prog_6_method_1_code 7 = .ok (.newarray .int, 2) from by decide +kernel) (fun q0 H hP hD hS => ?_)
  refine j_put (fs' := [.int 0, .int 0, .int 0, .ref q0, .null, .null, .null, .null, .null, .null, .null, .null]) C hP hD hS hk 3 (by decide) (by decide) (qgw_of (i := 315) rfl rfl) rfl rfl (by rw [qy_4_3]; rfl) (by rw [qy_4_3]; rfl) (Nat.le_of_ble_eq_true rfl) rfl (show decode prog_6_method_1_code 9 = .ok (.putfield 9, 3) from by decide +kernel) (fun H locs hP hD hS => ?_)
  refine lv_aload_n C.1 C.2.1 (show decode prog_6_method_1_code 12 = .ok (.aload_n 0, 1) from by decide +kernel) rfl (lv_at hl 0 rfl) ?_
  refine lv_bipush (v := 16) C.1 C.2.1 (show decode prog_6_method_1_code 13 = .ok (.bipush 16, 2) from by decide +kernel) (by decide) ?_
  refine j_newI C hP hD hS 16 (by decide) (by decide) (by decide) (cells' := 2) (slots' := 32) (by decide) (by decide) (by decide) (by decide) (show decode prog_6_method_1_code 15 = .ok (.newarray .int, 2) from by decide +kernel) (fun q1 H hP hD hS => ?_)
  refine j_put (fs' := [.int 0, .int 0, .int 0, .ref q0, .ref q1, .null, .null, .null, .null, .null, .null, .null]) C hP hD hS hk 4 (by decide) (by decide) (qgw_of (i := 318) rfl rfl) rfl rfl (by rw [qy_4_4]; rfl) (by rw [qy_4_4]; rfl) (Nat.le_of_ble_eq_true rfl) rfl (show decode prog_6_method_1_code 17 = .ok (.putfield 15, 3) from by decide +kernel) (fun H locs hP hD hS => ?_)
  refine lv_aload_n C.1 C.2.1 (show decode prog_6_method_1_code 20 = .ok (.aload_n 0, 1) from by decide +kernel) rfl (lv_at hl 0 rfl) ?_
  refine lv_bipush (v := 16) C.1 C.2.1 (show decode prog_6_method_1_code 21 = .ok (.bipush 16, 2) from by decide +kernel) (by decide) ?_
  refine j_newI C hP hD hS 16 (by decide) (by decide) (by decide) (cells' := 3) (slots' := 48) (by decide) (by decide) (by decide) (by decide) (show decode prog_6_method_1_code 23 = .ok (.newarray .int, 2) from by decide +kernel) (fun q2 H hP hD hS => ?_)
  refine j_put (fs' := [.int 0, .int 0, .int 0, .ref q0, .ref q1, .ref q2, .null, .null, .null, .null, .null, .null]) C hP hD hS hk 5 (by decide) (by decide) (qgw_of (i := 321) rfl rfl) rfl rfl (by rw [qy_4_5]; rfl) (by rw [qy_4_5]; rfl) (Nat.le_of_ble_eq_true rfl) rfl (show decode prog_6_method_1_code 25 = .ok (.putfield 18, 3) from by decide +kernel) (fun H locs hP hD hS => ?_)
  refine lv_aload_n C.1 C.2.1 (show decode prog_6_method_1_code 28 = .ok (.aload_n 0, 1) from by decide +kernel) rfl (lv_at hl 0 rfl) ?_
  refine lv_bipush (v := 16) C.1 C.2.1 (show decode prog_6_method_1_code 29 = .ok (.bipush 16, 2) from by decide +kernel) (by decide) ?_
  refine j_newI C hP hD hS 16 (by decide) (by decide) (by decide) (cells' := 4) (slots' := 64) (by decide) (by decide) (by decide) (by decide) (show decode prog_6_method_1_code 31 = .ok (.newarray .int, 2) from by decide +kernel) (fun q3 H hP hD hS => ?_)
  refine j_put (fs' := [.int 0, .int 0, .int 0, .ref q0, .ref q1, .ref q2, .ref q3, .null, .null, .null, .null, .null]) C hP hD hS hk 6 (by decide) (by decide) (qgw_of (i := 324) rfl rfl) rfl rfl (by rw [qy_4_6]; rfl) (by rw [qy_4_6]; rfl) (Nat.le_of_ble_eq_true rfl) rfl (show decode prog_6_method_1_code 33 = .ok (.putfield 21, 3) from by decide +kernel) (fun H locs hP hD hS => ?_)
  refine lv_aload_n C.1 C.2.1 (show decode prog_6_method_1_code 36 = .ok (.aload_n 0, 1) from by decide +kernel) rfl (lv_at hl 0 rfl) ?_
  refine lv_bipush (v := 16) C.1 C.2.1 (show decode prog_6_method_1_code 37 = .ok (.bipush 16, 2) from by decide +kernel) (by decide) ?_
  refine j_newI C hP hD hS 16 (by decide) (by decide) (by decide) (cells' := 5) (slots' := 80) (by decide) (by decide) (by decide) (by decide) (show decode prog_6_method_1_code 39 = .ok (.newarray .int, 2) from by decide +kernel) (fun q4 H hP hD hS => ?_)
  refine j_put (fs' := [.int 0, .int 0, .int 0, .ref q0, .ref q1, .ref q2, .ref q3, .ref q4, .null, .null, .null, .null]) C hP hD hS hk 7 (by decide) (by decide) (qgw_of (i := 327) rfl rfl) rfl rfl (by rw [qy_4_7]; rfl) (by rw [qy_4_7]; rfl) (Nat.le_of_ble_eq_true rfl) rfl (show decode prog_6_method_1_code 41 = .ok (.putfield 24, 3) from by decide +kernel) (fun H locs hP hD hS => ?_)
  refine lv_aload_n C.1 C.2.1 (show decode prog_6_method_1_code 44 = .ok (.aload_n 0, 1) from by decide +kernel) rfl (lv_at hl 0 rfl) ?_
  refine lv_bipush (v := 16) C.1 C.2.1 (show decode prog_6_method_1_code 45 = .ok (.bipush 16, 2) from by decide +kernel) (by decide) ?_
  refine j_newI C hP hD hS 16 (by decide) (by decide) (by decide) (cells' := 6) (slots' := 96) (by decide) (by decide) (by decide) (by decide) (show decode prog_6_method_1_code 47 = .ok (.newarray .int, 2) from by decide +kernel) (fun q5 H hP hD hS => ?_)
  refine j_put (fs' := [.int 0, .int 0, .int 0, .ref q0, .ref q1, .ref q2, .ref q3, .ref q4, .ref q5, .null, .null, .null]) C hP hD hS hk 8 (by decide) (by decide) (qgw_of (i := 329) rfl rfl) rfl rfl (by rw [qy_4_8]; rfl) (by rw [qy_4_8]; rfl) (Nat.le_of_ble_eq_true rfl) rfl (show decode prog_6_method_1_code 49 = .ok (.putfield 27, 3) from by decide +kernel) (fun H locs hP hD hS => ?_)
  refine lv_aload_n C.1 C.2.1 (show decode prog_6_method_1_code 52 = .ok (.aload_n 0, 1) from by decide +kernel) rfl (lv_at hl 0 rfl) ?_
  refine lv_bipush (v := 64) C.1 C.2.1 (show decode prog_6_method_1_code 53 = .ok (.bipush 64, 2) from by decide +kernel) (by decide) ?_
  refine j_newI C hP hD hS 64 (by decide) (by decide) (by decide) (cells' := 7) (slots' := 160) (by decide) (by decide) (by decide) (by decide) (show decode prog_6_method_1_code 55 = .ok (.newarray .int, 2) from by decide +kernel) (fun q6 H hP hD hS => ?_)
  refine j_put (fs' := [.int 0, .int 0, .int 0, .ref q0, .ref q1, .ref q2, .ref q3, .ref q4, .ref q5, .ref q6, .null, .null]) C hP hD hS hk 9 (by decide) (by decide) (qgw_of (i := 331) rfl rfl) rfl rfl (by rw [qy_4_9]; rfl) (by rw [qy_4_9]; rfl) (Nat.le_of_ble_eq_true rfl) rfl (show decode prog_6_method_1_code 57 = .ok (.putfield 30, 3) from by decide +kernel) (fun H locs hP hD hS => ?_)
  refine lv_aload_n C.1 C.2.1 (show decode prog_6_method_1_code 60 = .ok (.aload_n 0, 1) from by decide +kernel) rfl (lv_at hl 0 rfl) ?_
  refine lv_bipush (v := 8) C.1 C.2.1 (show decode prog_6_method_1_code 61 = .ok (.bipush 8, 2) from by decide +kernel) (by decide) ?_
  refine j_newI C hP hD hS 8 (by decide) (by decide) (by decide) (cells' := 8) (slots' := 168) (by decide) (by decide) (by decide) (by decide) (show decode prog_6_method_1_code 63 = .ok (.newarray .int, 2) from by decide +kernel) (fun q7 H hP hD hS => ?_)
  refine j_put (fs' := [.int 0, .int 0, .int 0, .ref q0, .ref q1, .ref q2, .ref q3, .ref q4, .ref q5, .ref q6, .ref q7, .null]) C hP hD hS hk 10 (by decide) (by decide) (qgw_of (i := 332) rfl rfl) rfl rfl (by rw [qy_4_10]; rfl) (by rw [qy_4_10]; rfl) (Nat.le_of_ble_eq_true rfl) rfl (show decode prog_6_method_1_code 65 = .ok (.putfield 33, 3) from by decide +kernel) (fun H locs hP hD hS => ?_)
  refine lv_aload_n C.1 C.2.1 (show decode prog_6_method_1_code 68 = .ok (.aload_n 0, 1) from by decide +kernel) rfl (lv_at hl 0 rfl) ?_
  refine lv_bipush (v := 8) C.1 C.2.1 (show decode prog_6_method_1_code 69 = .ok (.bipush 8, 2) from by decide +kernel) (by decide) ?_
  refine j_newZ C hP hD hS 8 (by decide) (by decide) (by decide) (cells' := 9) (slots' := 176) (by decide) (by decide) (by decide) (by decide) (show decode prog_6_method_1_code 71 = .ok (.newarray .boolean, 2) from by decide +kernel) (fun q8 H hP hD hS => ?_)
  refine j_put (fs' := [.int 0, .int 0, .int 0, .ref q0, .ref q1, .ref q2, .ref q3, .ref q4, .ref q5, .ref q6, .ref q7, .ref q8]) C hP hD hS hk 11 (by decide) (by decide) (qgw_of (i := 333) rfl rfl) rfl rfl (by rw [qy_4_11]; rfl) (by rw [qy_4_11]; rfl) (Nat.le_of_ble_eq_true rfl) rfl (show decode prog_6_method_1_code 73 = .ok (.putfield 36, 3) from by decide +kernel) (fun H locs hP hD hS => ?_)
  exact j_ret (o := oPlans) (mk := mkPlans X) C (q0, q1, q2, q3, q4, q5, q6, q7, q8) hP hD hS (show decode prog_6_method_1_code 76 = .ok (.return_, 1) from by decide +kernel)
