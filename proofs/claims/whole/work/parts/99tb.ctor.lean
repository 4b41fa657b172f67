/-! constructors -/
abbrev T_Told : Type := Nat × Nat
def oTold10 (u : T_Told) : List Value := [.int 0, .ref u.1, .ref u.2]
def mkTold10 (X : Cx) (u : T_Told) : va_W := ((([] : va_W) ++ [(u.1, jar X 10)]) ++ [(u.2, jar X 10)])
set_option maxRecDepth 100000 in
set_option maxHeartbeats 4000000 in
theorem ci_Told10 {X : Cx} {base : Nat} : CI X base ⟨"ClayBoots$Told", "<init>", "(I)V"⟩ prog_10_method_1_code 2 { frames := 1, cells := 2, slots := 20, locals := 100 } 8 [.int 0, .null, .null] [.int 10] 2 20 (oTold10) (mkTold10 X) := by
  refine CI_of (by decide +kernel) rfl ?_
  intro ws k a hk p e s m below meth c C hP hD
  have hS : va_S (jA base) s.heap s.heap [] := va_S.rf
  have hl := lv_entry ([.ref a, .int 10]) (n := 2) (Nat.le_of_ble_eq_true rfl)
  rw [lg_entry_eq]
  generalize (lg_sl ([.ref a, .int 10]) ++ List.replicate (2 - (lg_sl ([.ref a, .int 10])).length) Slot.unset).toArray = ls at hl ⊢
  have hl : lv_has ls 2 [(0, .ref a), (1, .int 10)] := hl
  refine lv_aload_n C.1 C.2.1 (show decode prog_10_method_1_code 0 = .ok (.aload_n 0, 1) from by decide +kernel) rfl (lv_at hl 0 rfl) ?_
  refine j_obj C hl.1 (qgw_of (i := 371) rfl rfl) (by decide) (by decide) (show decode prog_10_method_1_code 1 = .ok (.invokespecial 3, 3) from by decide +kernel) ?_
  refine lv_aload_n C.1 C.2.1 (show decode prog_10_method_1_code 4 = .ok (.aload_n 0, 1) from by decide +kernel) rfl (lv_at hl 0 rfl) ?_
  refine lv_iconst (v := 0) C.1 C.2.1 (show decode prog_10_method_1_code 5 = .ok (.iconst 0, 1) from by decide +kernel) (by decide) ?_
  refine lv_iload_n C.1 C.2.1 (show decode prog_10_method_1_code 6 = .ok (.iload_n 1, 1) from by decide +kernel) rfl (lv_at hl 1 rfl) ?_
  refine j_max C hl.1 (qgw_of (i := 372) rfl rfl) (by decide) (Nat.le_of_ble_eq_true rfl) (by decide) (by decide) (show decode prog_10_method_1_code 7 = .ok (.invokestatic 9, 3) from by decide +kernel) ?_
  refine j_newI C hP hD hS 10 (by decide) (by decide) (by decide) (cells' := 1) (slots' := 10) (by decide) (by decide) (by decide) (by decide) (show decode prog_10_method_1_code 10 = .ok (.newarray .int, 2) from by decide +kernel) (fun q0 H hP hD hS => ?_)
  refine j_put (fs' := [.int 0, .ref q0, .null]) C hP hD hS hk 1 (by decide) (by decide) (qgw_of (i := 378) rfl rfl) rfl rfl (by rw [qy_8_1]; rfl) (by rw [qy_8_1]; rfl) (Nat.le_of_ble_eq_true rfl) rfl (show decode prog_10_method_1_code 12 = .ok (.putfield 15, 3) from by decide +kernel) (fun H locs hP hD hS => ?_)
  refine lv_aload_n C.1 C.2.1 (show decode prog_10_method_1_code 15 = .ok (.aload_n 0, 1) from by decide +kernel) rfl (lv_at hl 0 rfl) ?_
  refine lv_iconst (v := 0) C.1 C.2.1 (show decode prog_10_method_1_code 16 = .ok (.iconst 0, 1) from by decide +kernel) (by decide) ?_
  refine lv_iload_n C.1 C.2.1 (show decode prog_10_method_1_code 17 = .ok (.iload_n 1, 1) from by decide +kernel) rfl (lv_at hl 1 rfl) ?_
  refine j_max C hl.1 (qgw_of (i := 372) rfl rfl) (by decide) (Nat.le_of_ble_eq_true rfl) (by decide) (by decide) (show decode prog_10_method_1_code 18 = .ok (.invokestatic 9, 3) from by decide +kernel) ?_
  refine j_newI C hP hD hS 10 (by decide) (by decide) (by decide) (cells' := 2) (slots' := 20) (by decide) (by decide) (by decide) (by decide) (show decode prog_10_method_1_code 21 = .ok (.newarray .int, 2) from by decide +kernel) (fun q1 H hP hD hS => ?_)
  refine j_put (fs' := [.int 0, .ref q0, .ref q1]) C hP hD hS hk 2 (by decide) (by decide) (qgw_of (i := 380) rfl rfl) rfl rfl (by rw [qy_8_2]; rfl) (by rw [qy_8_2]; rfl) (Nat.le_of_ble_eq_true rfl) rfl (show decode prog_10_method_1_code 23 = .ok (.putfield 21, 3) from by decide +kernel) (fun H locs hP hD hS => ?_)
  exact j_ret (o := oTold10) (mk := mkTold10 X) C (q0, q1) hP hD hS (show decode prog_10_method_1_code 26 = .ok (.return_, 1) from by decide +kernel)
def oTold20 (u : T_Told) : List Value := [.int 0, .ref u.1, .ref u.2]
def mkTold20 (X : Cx) (u : T_Told) : va_W := ((([] : va_W) ++ [(u.1, jar X 20)]) ++ [(u.2, jar X 20)])
set_option maxRecDepth 100000 in
set_option maxHeartbeats 4000000 in
theorem ci_Told20 {X : Cx} {base : Nat} : CI X base ⟨"ClayBoots$Told", "<init>", "(I)V"⟩ prog_10_method_1_code 2 { frames := 1, cells := 2, slots := 40, locals := 100 } 8 [.int 0, .null, .null] [.int 20] 2 40 (oTold20) (mkTold20 X) := by
  refine CI_of (by decide +kernel) rfl ?_
  intro ws k a hk p e s m below meth c C hP hD
  have hS : va_S (jA base) s.heap s.heap [] := va_S.rf
  have hl := lv_entry ([.ref a, .int 20]) (n := 2) (Nat.le_of_ble_eq_true rfl)
  rw [lg_entry_eq]
  generalize (lg_sl ([.ref a, .int 20]) ++ List.replicate (2 - (lg_sl ([.ref a, .int 20])).length) Slot.unset).toArray = ls at hl ⊢
  have hl : lv_has ls 2 [(0, .ref a), (1, .int 20)] := hl
  refine lv_aload_n C.1 C.2.1 (show decode prog_10_method_1_code 0 = .ok (.aload_n 0, 1) from by decide +kernel) rfl (lv_at hl 0 rfl) ?_
  refine j_obj C hl.1 (qgw_of (i := 371) rfl rfl) (by decide) (by decide) (show decode prog_10_method_1_code 1 = .ok (.invokespecial 3, 3) from by decide +kernel) ?_
  refine lv_aload_n C.1 C.2.1 (show decode prog_10_method_1_code 4 = .ok (.aload_n 0, 1) from by decide +kernel) rfl (lv_at hl 0 rfl) ?_
  refine lv_iconst (v := 0) C.1 C.2.1 (show decode prog_10_method_1_code 5 = .ok (.iconst 0, 1) from by decide +kernel) (by decide) ?_
  refine lv_iload_n C.1 C.2.1 (show decode prog_10_method_1_code 6 = .ok (.iload_n 1, 1) from by decide +kernel) rfl (lv_at hl 1 rfl) ?_
  refine j_max C hl.1 (qgw_of (i := 372) rfl rfl) (by decide) (Nat.le_of_ble_eq_true rfl) (by decide) (by decide) (show decode prog_10_method_1_code 7 = .ok (.invokestatic 9, 3) from by decide +kernel) ?_
  refine j_newI C hP hD hS 20 (by decide) (by decide) (by decide) (cells' := 1) (slots' := 20) (by decide) (by decide) (by decide) (by decide) (show decode prog_10_method_1_code 10 = .ok (.newarray .int, 2) from by decide +kernel) (fun q0 H hP hD hS => ?_)
  refine j_put (fs' := [.int 0, .ref q0, .null]) C hP hD hS hk 1 (by decide) (by decide) (qgw_of (i := 378) rfl rfl) rfl rfl (by rw [qy_8_1]; rfl) (by rw [qy_8_1]; rfl) (Nat.le_of_ble_eq_true rfl) rfl (show decode prog_10_method_1_code 12 = .ok (.putfield 15, 3) from by decide +kernel) (fun H locs hP hD hS => ?_)
  refine lv_aload_n C.1 C.2.1 (show decode prog_10_method_1_code 15 = .ok (.aload_n 0, 1) from by decide +kernel) rfl (lv_at hl 0 rfl) ?_
  refine lv_iconst (v := 0) C.1 C.2.1 (show decode prog_10_method_1_code 16 = .ok (.iconst 0, 1) from by decide +kernel) (by decide) ?_
  refine lv_iload_n C.1 C.2.1 (show decode prog_10_method_1_code 17 = .ok (.iload_n 1, 1) from by decide +kernel) rfl (lv_at hl 1 rfl) ?_
  refine j_max C hl.1 (qgw_of (i := 372) rfl rfl) (by decide) (Nat.le_of_ble_eq_true rfl) (by decide) (by decide) (show decode prog_10_method_1_code 18 = .ok (.invokestatic 9, 3) from by decide +kernel) ?_
  refine j_newI C hP hD hS 20 (by decide) (by decide) (by decide) (cells' := 2) (slots' := 40) (by decide) (by decide) (by decide) (by decide) (show decode prog_10_method_1_code 21 = .ok (.newarray .int, 2) from by decide +kernel) (fun q1 H hP hD hS => ?_)
  refine j_put (fs' := [.int 0, .ref q0, .ref q1]) C hP hD hS hk 2 (by decide) (by decide) (qgw_of (i := 380) rfl rfl) rfl rfl (by rw [qy_8_2]; rfl) (by rw [qy_8_2]; rfl) (Nat.le_of_ble_eq_true rfl) rfl (show decode prog_10_method_1_code 23 = .ok (.putfield 21, 3) from by decide +kernel) (fun H locs hP hD hS => ?_)
  exact j_ret (o := oTold20) (mk := mkTold20 X) C (q0, q1) hP hD hS (show decode prog_10_method_1_code 26 = .ok (.return_, 1) from by decide +kernel)
def oTold8 (u : T_Told) : List Value := [.int 0, .ref u.1, .ref u.2]
def mkTold8 (X : Cx) (u : T_Told) : va_W := ((([] : va_W) ++ [(u.1, jar X 8)]) ++ [(u.2, jar X 8)])
set_option maxRecDepth 100000 in
set_option maxHeartbeats 4000000 in
theorem ci_Told8 {X : Cx} {base : Nat} : CI X base ⟨"ClayBoots$Told", "<init>", "(I)V"⟩ prog_10_method_1_code 2 { frames := 1, cells := 2, slots := 16, locals := 100 } 8 [.int 0, .null, .null] [.int 8] 2 16 (oTold8) (mkTold8 X) := by
  refine CI_of (by decide +kernel) rfl ?_
  intro ws k a hk p e s m below meth c C hP hD
  have hS : va_S (jA base) s.heap s.heap [] := va_S.rf
  have hl := lv_entry ([.ref a, .int 8]) (n := 2) (Nat.le_of_ble_eq_true rfl)
  rw [lg_entry_eq]
  generalize (lg_sl ([.ref a, .int 8]) ++ List.replicate (2 - (lg_sl ([.ref a, .int 8])).length) Slot.unset).toArray = ls at hl ⊢
  have hl : lv_has ls 2 [(0, .ref a), (1, .int 8)] := hl
  refine lv_aload_n C.1 C.2.1 (show decode prog_10_method_1_code 0 = .ok (.aload_n 0, 1) from by decide +kernel) rfl (lv_at hl 0 rfl) ?_
  refine j_obj C hl.1 (qgw_of (i := 371) rfl rfl) (by decide) (by decide) (show decode prog_10_method_1_code 1 = .ok (.invokespecial 3, 3) from by decide +kernel) ?_
  refine lv_aload_n C.1 C.2.1 (show decode prog_10_method_1_code 4 = .ok (.aload_n 0, 1) from by decide +kernel) rfl (lv_at hl 0 rfl) ?_
  refine lv_iconst (v := 0) C.1 C.2.1 (show decode prog_10_method_1_code 5 = .ok (.iconst 0, 1) from by decide +kernel) (by decide) ?_
  refine lv_iload_n C.1 C.2.1 (show decode prog_10_method_1_code 6 = .ok (.iload_n 1, 1) from by decide +kernel) rfl (lv_at hl 1 rfl) ?_
  refine j_max C hl.1 (qgw_of (i := 372) rfl rfl) (by decide) (Nat.le_of_ble_eq_true rfl) (by decide) (by decide) (show decode prog_10_method_1_code 7 = .ok (.invokestatic 9, 3) from by decide +kernel) ?_
  refine j_newI C hP hD hS 8 (by decide) (by decide) (by decide) (cells' := 1) (slots' := 8) (by decide) (by decide) (by decide) (by decide) (show decode prog_10_method_1_code 10 = .ok (.newarray .int, 2) from by decide +kernel) (fun q0 H hP hD hS => ?_)
  refine j_put (fs' := [.int 0, .ref q0, .null]) C hP hD hS hk 1 (by decide) (by decide) (qgw_of (i := 378) rfl rfl) rfl rfl (by rw [qy_8_1]; rfl) (by rw [qy_8_1]; rfl) (Nat.le_of_ble_eq_true rfl) rfl (show decode prog_10_method_1_code 12 = .ok (.putfield 15, 3) from by decide +kernel) (fun H locs hP hD hS => ?_)
  refine lv_aload_n C.1 C.2.1 (show decode prog_10_method_1_code 15 = .ok (.aload_n 0, 1) from by decide +kernel) rfl (lv_at hl 0 rfl) ?_
  refine lv_iconst (v := 0) C.1 C.2.1 (show decode prog_10_method_1_code 16 = .ok (.iconst 0, 1) from by decide +kernel) (by decide) ?_
  refine lv_iload_n C.1 C.2.1 (show decode prog_10_method_1_code 17 = .ok (.iload_n 1, 1) from by decide +kernel) rfl (lv_at hl 1 rfl) ?_
  refine j_max C hl.1 (qgw_of (i := 372) rfl rfl) (by decide) (Nat.le_of_ble_eq_true rfl) (by decide) (by decide) (show decode prog_10_method_1_code 18 = .ok (.invokestatic 9, 3) from by decide +kernel) ?_
  refine j_newI C hP hD hS 8 (by decide) (by decide) (by decide) (cells' := 2) (slots' := 16) (by decide) (by decide) (by decide) (by decide) (show decode prog_10_method_1_code 21 = .ok (.newarray .int, 2) from by decide +kernel) (fun q1 H hP hD hS => ?_)
  refine j_put (fs' := [.int 0, .ref q0, .ref q1]) C hP hD hS hk 2 (by decide) (by decide) (qgw_of (i := 380) rfl rfl) rfl rfl (by rw [qy_8_2]; rfl) (by rw [qy_8_2]; rfl) (Nat.le_of_ble_eq_true rfl) rfl (show decode prog_10_method_1_code 23 = .ok (.putfield 21, 3) from by decide +kernel) (fun H locs hP hD hS => ?_)
  exact j_ret (o := oTold8) (mk := mkTold8 X) C (q0, q1) hP hD hS (show decode prog_10_method_1_code 26 = .ok (.return_, 1) from by decide +kernel)
def oTold12 (u : T_Told) : List Value := [.int 0, .ref u.1, .ref u.2]
def mkTold12 (X : Cx) (u : T_Told) : va_W := ((([] : va_W) ++ [(u.1, jar X 12)]) ++ [(u.2, jar X 12)])
set_option maxRecDepth 100000 in
set_option maxHeartbeats 4000000 in
theorem ci_Told12 {X : Cx} {base : Nat} : CI X base ⟨"ClayBoots$Told", "<init>", "(I)V"⟩ prog_10_method_1_code 2 { frames := 1, cells := 2, slots := 24, locals := 100 } 8 [.int 0, .null, .null] [.int 12] 2 24 (oTold12) (mkTold12 X) := by
  refine CI_of (by decide +kernel) rfl ?_
  intro ws k a hk p e s m below meth c C hP hD
  have hS : va_S (jA base) s.heap s.heap [] := va_S.rf
  have hl := lv_entry ([.ref a, .int 12]) (n := 2) (Nat.le_of_ble_eq_true rfl)
  rw [lg_entry_eq]
  generalize (lg_sl ([.ref a, .int 12]) ++ List.replicate (2 - (lg_sl ([.ref a, .int 12])).length) Slot.unset).toArray = ls at hl ⊢
  have hl : lv_has ls 2 [(0, .ref a), (1, .int 12)] := hl
  refine lv_aload_n C.1 C.2.1 (show decode prog_10_method_1_code 0 = .ok (.aload_n 0, 1) from by decide +kernel) rfl (lv_at hl 0 rfl) ?_
  refine j_obj C hl.1 (qgw_of (i := 371) rfl rfl) (by decide) (by decide) (show decode prog_10_method_1_code 1 = .ok (.invokespecial 3, 3) from by decide +kernel) ?_
  refine lv_aload_n C.1 C.2.1 (show decode prog_10_method_1_code 4 = .ok (.aload_n 0, 1) from by decide +kernel) rfl (lv_at hl 0 rfl) ?_
  refine lv_iconst (v := 0) C.1 C.2.1 (show decode prog_10_method_1_code 5 = .ok (.iconst 0, 1) from by decide +kernel) (by decide) ?_
  refine lv_iload_n C.1 C.2.1 (show decode prog_10_method_1_code 6 = .ok (.iload_n 1, 1) from by decide +kernel) rfl (lv_at hl 1 rfl) ?_
  refine j_max C hl.1 (qgw_of (i := 372) rfl rfl) (by decide) (Nat.le_of_ble_eq_true rfl) (by decide) (by decide) (show decode prog_10_method_1_code 7 = .ok (.invokestatic 9, 3) from by decide +kernel) ?_
  refine j_newI C hP hD hS 12 (by decide) (by decide) (by decide) (cells' := 1) (slots' := 12) (by decide) (by decide) (by decide) (by decide) (show decode prog_10_method_1_code 10 = .ok (.newarray .int, 2) from by decide +kernel) (fun q0 H hP hD hS => ?_)
  refine j_put (fs' := [.int 0, .ref q0, .null]) C hP hD hS hk 1 (by decide) (by decide) (qgw_of (i := 378) rfl rfl) rfl rfl (by rw [qy_8_1]; rfl) (by rw [qy_8_1]; rfl) (Nat.le_of_ble_eq_true rfl) rfl (show decode prog_10_method_1_code 12 = .ok (.putfield 15, 3) from by decide +kernel) (fun H locs hP hD hS => ?_)
  refine lv_aload_n C.1 C.2.1 (show decode prog_10_method_1_code 15 = .ok (.aload_n 0, 1) from by decide +kernel) rfl (lv_at hl 0 rfl) ?_
  refine lv_iconst (v := 0) C.1 C.2.1 (show decode prog_10_method_1_code 16 = .ok (.iconst 0, 1) from by decide +kernel) (by decide) ?_
  refine lv_iload_n C.1 C.2.1 (show decode prog_10_method_1_code 17 = .ok (.iload_n 1, 1) from by decide +kernel) rfl (lv_at hl 1 rfl) ?_
  refine j_max C hl.1 (qgw_of (i := 372) rfl rfl) (by decide) (Nat.le_of_ble_eq_true rfl) (by decide) (by decide) (show decode prog_10_method_1_code 18 = .ok (.invokestatic 9, 3) from by decide +kernel) ?_
  refine j_newI C hP hD hS 12 (by decide) (by decide) (by decide) (cells' := 2) (slots' := 24) (by decide) (by decide) (by decide) (by decide) (show decode prog_10_method_1_code 21 = .ok (.newarray .int, 2) from by decide +kernel) (fun q1 H hP hD hS => ?_)
  refine j_put (fs' := [.int 0, .ref q0, .ref q1]) C hP hD hS hk 2 (by decide) (by decide) (qgw_of (i := 380) rfl rfl) rfl rfl (by rw [qy_8_2]; rfl) (by rw [qy_8_2]; rfl) (Nat.le_of_ble_eq_true rfl) rfl (show decode prog_10_method_1_code 23 = .ok (.putfield 21, 3) from by decide +kernel) (fun H locs hP hD hS => ?_)
  exact j_ret (o := oTold12) (mk := mkTold12 X) C (q0, q1) hP hD hS (show decode prog_10_method_1_code 26 = .ok (.return_, 1) from by decide +kernel)
abbrev T_Th : Type := Nat × Nat × Nat × T_Told × Nat × T_Told × Nat × T_Told × Nat × T_Told × Nat × T_Told × Nat × Nat × Nat × Nat × Nat
def oTh (u : T_Th) : List Value := [.ref u.1, .ref u.2.1, .ref u.2.2.1, .ref u.2.2.2.2.1, .ref u.2.2.2.2.2.2.1, .ref u.2.2.2.2.2.2.2.2.1, .ref u.2.2.2.2.2.2.2.2.2.2.1, .ref u.2.2.2.2.2.2.2.2.2.2.2.2.1, .ref u.2.2.2.2.2.2.2.2.2.2.2.2.2.1, .ref u.2.2.2.2.2.2.2.2.2.2.2.2.2.2.1, .ref u.2.2.2.2.2.2.2.2.2.2.2.2.2.2.2.1, .ref u.2.2.2.2.2.2.2.2.2.2.2.2.2.2.2.2]
def mkTh (X : Cx) (u : T_Th) : va_W := ((((((((((((((((((((([] : va_W) ++ [(u.1, jar X 6)]) ++ [(u.2.1, jar X 8)]) ++ (u.2.2.1, .inr (8, oTold10 u.2.2.2.1)) :: mkTold10 X u.2.2.2.1) ++ (u.2.2.2.2.1, .inr (8, oTold10 u.2.2.2.2.2.1)) :: mkTold10 X u.2.2.2.2.2.1) ++ (u.2.2.2.2.2.2.1, .inr (8, oTold20 u.2.2.2.2.2.2.2.1)) :: mkTold20 X u.2.2.2.2.2.2.2.1) ++ (u.2.2.2.2.2.2.2.2.1, .inr (8, oTold8 u.2.2.2.2.2.2.2.2.2.1)) :: mkTold8 X u.2.2.2.2.2.2.2.2.2.1) ++ (u.2.2.2.2.2.2.2.2.2.2.1, .inr (8, oTold12 u.2.2.2.2.2.2.2.2.2.2.2.1)) :: mkTold12 X u.2.2.2.2.2.2.2.2.2.2.2.1) ++ [(u.2.2.2.2.2.2.2.2.2.2.2.2.1, jar X 31)]) ++ [(u.2.2.2.2.2.2.2.2.2.2.2.2.2.1, jar X 4)]) ++ [(u.2.2.2.2.2.2.2.2.2.2.2.2.2.2.1, jar X 20)]) ++ [(u.2.2.2.2.2.2.2.2.2.2.2.2.2.2.2.1, jar X 12)]) ++ [(u.2.2.2.2.2.2.2.2.2.2.2.2.2.2.2.2, jar X 12)]).set 1 (u.2.1, .inl (xc X 0, 8, .inl (upd (fun _ => 0) (0 : Int32).toNatClampNeg 0)))).set 1 (u.2.1, .inl (xc X 0, 8, .inl (upd (upd (fun _ => 0) (0 : Int32).toNatClampNeg 0) (1 : Int32).toNatClampNeg 1)))).set 1 (u.2.1, .inl (xc X 0, 8, .inl (upd (upd (upd (fun _ => 0) (0 : Int32).toNatClampNeg 0) (1 : Int32).toNatClampNeg 1) (2 : Int32).toNatClampNeg 2)))).set 1 (u.2.1, .inl (xc X 0, 8, .inl (upd (upd (upd (upd (fun _ => 0) (0 : Int32).toNatClampNeg 0) (1 : Int32).toNatClampNeg 1) (2 : Int32).toNatClampNeg 2) (3 : Int32).toNatClampNeg 3)))).set 1 (u.2.1, .inl (xc X 0, 8, .inl (upd (upd (upd (upd (upd (fun _ => 0) (0 : Int32).toNatClampNeg 0) (1 : Int32).toNatClampNeg 1) (2 : Int32).toNatClampNeg 2) (3 : Int32).toNatClampNeg 3) (4 : Int32).toNatClampNeg 4)))).set 1 (u.2.1, .inl (xc X 0, 8, .inl (upd (upd (upd (upd (upd (upd (fun _ => 0) (0 : Int32).toNatClampNeg 0) (1 : Int32).toNatClampNeg 1) (2 : Int32).toNatClampNeg 2) (3 : Int32).toNatClampNeg 3) (4 : Int32).toNatClampNeg 4) (5 : Int32).toNatClampNeg 5)))).set 1 (u.2.1, .inl (xc X 0, 8, .inl (upd (upd (upd (upd (upd (upd (upd (fun _ => 0) (0 : Int32).toNatClampNeg 0) (1 : Int32).toNatClampNeg 1) (2 : Int32).toNatClampNeg 2) (3 : Int32).toNatClampNeg 3) (4 : Int32).toNatClampNeg 4) (5 : Int32).toNatClampNeg 5) (6 : Int32).toNatClampNeg 6)))).set 1 (u.2.1, .inl (xc X 0, 8, .inl (upd (upd (upd (upd (upd (upd (upd (upd (fun _ => 0) (0 : Int32).toNatClampNeg 0) (1 : Int32).toNatClampNeg 1) (2 : Int32).toNatClampNeg 2) (3 : Int32).toNatClampNeg 3) (4 : Int32).toNatClampNeg 4) (5 : Int32).toNatClampNeg 5) (6 : Int32).toNatClampNeg 6) (7 : Int32).toNatClampNeg 7))))
set_option maxRecDepth 100000 in
set_option maxHeartbeats 4000000 in
theorem ci_Th {X : Cx} {base : Nat} : CI X base ⟨"ClayBoots$Thoughts", "<init>", "()V"⟩ prog_9_method_1_code 2 { frames := 2, cells := 22, slots := 228, locals := 200 } 7 [.null, .null, .null, .null, .null, .null, .null, .null, .null, .null, .null, .null] [] 22 228 (oTh) (mkTh X) := by
  refine CI_of (by decide +kernel) rfl ?_
  intro ws k a hk p e s m below meth c C hP hD
  have hS : va_S (jA base) s.heap s.heap [] := va_S.rf
  have hl := lv_entry ([.ref a]) (n := 2) (Nat.le_of_ble_eq_true rfl)
  rw [lg_entry_eq]
  generalize (lg_sl ([.ref a]) ++ List.replicate (2 - (lg_sl ([.ref a])).length) Slot.unset).toArray = ls at hl ⊢
  have hl : lv_has ls 2 [(0, .ref a)] := hl
  refine lv_aload_n C.1 C.2.1 (show decode prog_9_method_1_code 0 = .ok (.aload_n 0, 1) from by decide +kernel) rfl (lv_at hl 0 rfl) ?_
  refine j_obj C hl.1 (qgw_of (i := 365) rfl rfl) (by decide) (by decide) (show decode prog_9_method_1_code 1 = .ok (.invokespecial 3, 3) from by decide +kernel) ?_
  refine lv_aload_n C.1 C.2.1 (show decode prog_9_method_1_code 4 = .ok (.aload_n 0, 1) from by decide +kernel) rfl (lv_at hl 0 rfl) ?_
  refine lv_bipush (v := 6) C.1 C.2.1 (show decode prog_9_method_1_code 5 = .ok (.bipush 6, 2) from by decide +kernel) (by decide) ?_
  refine j_newI C hP hD hS 6 (by decide) (by decide) (by decide) (cells' := 1) (slots' := 6) (by decide) (by decide) (by decide) (by decide) (show decode prog_9_method_1_code 7 = .ok (.newarray .int, 2) from by decide +kernel) (fun q0 H hP hD hS => ?_)
  refine j_put (fs' := [.ref q0, .null, .null, .null, .null, .null, .null, .null, .null, .null, .null, .null]) C hP hD hS hk 0 (by decide) (by decide) (qgw_of (i := 389) rfl rfl) rfl rfl (by rw [qy_7_0]; rfl) (by rw [qy_7_0]; rfl) (Nat.le_of_ble_eq_true rfl) rfl (show decode prog_9_method_1_code 9 = .ok (.putfield 9, 3) from by decide +kernel) (fun H locs hP hD hS => ?_)
  refine lv_aload_n C.1 C.2.1 (show decode prog_9_method_1_code 12 = .ok (.aload_n 0, 1) from by decide +kernel) rfl (lv_at hl 0 rfl) ?_
  refine lv_bipush (v := 8) C.1 C.2.1 (show decode prog_9_method_1_code 13 = .ok (.bipush 8, 2) from by decide +kernel) (by decide) ?_
  refine j_newI C hP hD hS 8 (by decide) (by decide) (by decide) (cells' := 2) (slots' := 14) (by decide) (by decide) (by decide) (by decide) (show decode prog_9_method_1_code 15 = .ok (.newarray .int, 2) from by decide +kernel) (fun q1 H hP hD hS => ?_)
  refine j_put (fs' := [.ref q0, .ref q1, .null, .null, .null, .null, .null, .null, .null, .null, .null, .null]) C hP hD hS hk 1 (by decide) (by decide) (qgw_of (i := 391) rfl rfl) rfl rfl (by rw [qy_7_1]; rfl) (by rw [qy_7_1]; rfl) (Nat.le_of_ble_eq_true rfl) rfl (show decode prog_9_method_1_code 17 = .ok (.putfield 15, 3) from by decide +kernel) (fun H locs hP hD hS => ?_)
  refine lv_aload_n C.1 C.2.1 (show decode prog_9_method_1_code 20 = .ok (.aload_n 0, 1) from by decide +kernel) rfl (lv_at hl 0 rfl) ?_
  refine j_newc C hP hD hS 8 3 (by decide) (by decide) qdf_8 (qgw_of (i := 366) rfl rfl) (qgw_of (i := 367) rfl rfl) (qgw_of (i := 120) rfl rfl) (cells' := 3) (slots' := 17) (by decide) (by decide) (by decide) (by decide) (show decode prog_9_method_1_code 21 = .ok (.new 18, 3) from by decide +kernel) (fun q2 H hP hD hS => ?_)
  refine lv_dup C.1 C.2.1 (show decode prog_9_method_1_code 24 = .ok (.dup, 1) from by decide +kernel) rfl ?_
  refine lv_bipush (v := 10) C.1 C.2.1 (show decode prog_9_method_1_code 25 = .ok (.bipush 10, 2) from by decide +kernel) (by decide) ?_
  refine j_call (as := [.int 10]) (rest := [.ref q2, .ref a]) C hl.1 hP hD hS (ci_Told10 (X := X) (base := base)) (index := 20) (n := 1) (Or.inl (qgw_of (i := 368) rfl rfl)) (qgw_of (i := 370) rfl rfl) (qgw_of (i := 120) rfl rfl) (qgw_of (i := 369) rfl rfl) rfl ⟨by decide, by decide, by decide +kernel⟩ rfl rfl rfl ⟨by decide, by decide⟩ (cells' := 5) (slots' := 37) (by decide) (by decide) (by decide) (by decide) rfl (Nat.le_of_ble_eq_true rfl) (show decode prog_9_method_1_code 27 = .ok (.invokespecial 20, 3) from by decide +kernel) (fun u3 H locs hP hD hS => ?_)
  refine j_put (fs' := [.ref q0, .ref q1, .ref q2, .null, .null, .null, .null, .null, .null, .null, .null, .null]) C hP hD hS hk 2 (by decide) (by decide) (qgw_of (i := 393) rfl rfl) rfl rfl (by rw [qy_7_2]; rfl) (by rw [qy_7_2]; rfl) (Nat.le_of_ble_eq_true rfl) rfl (show decode prog_9_method_1_code 30 = .ok (.putfield 23, 3) from by decide +kernel) (fun H locs hP hD hS => ?_)
  refine lv_aload_n C.1 C.2.1 (show decode prog_9_method_1_code 33 = .ok (.aload_n 0, 1) from by decide +kernel) rfl (lv_at hl 0 rfl) ?_
  refine j_newc C hP hD hS 8 3 (by decide) (by decide) qdf_8 (qgw_of (i := 366) rfl rfl) (qgw_of (i := 367) rfl rfl) (qgw_of (i := 120) rfl rfl) (cells' := 6) (slots' := 40) (by decide) (by decide) (by decide) (by decide) (show decode prog_9_method_1_code 34 = .ok (.new 18, 3) from by decide +kernel) (fun q4 H hP hD hS => ?_)
  refine lv_dup C.1 C.2.1 (show decode prog_9_method_1_code 37 = .ok (.dup, 1) from by decide +kernel) rfl ?_
  refine lv_bipush (v := 10) C.1 C.2.1 (show decode prog_9_method_1_code 38 = .ok (.bipush 10, 2) from by decide +kernel) (by decide) ?_
  refine j_call (as := [.int 10]) (rest := [.ref q4, .ref a]) C hl.1 hP hD hS (ci_Told10 (X := X) (base := base)) (index := 20) (n := 1) (Or.inl (qgw_of (i := 368) rfl rfl)) (qgw_of (i := 370) rfl rfl) (qgw_of (i := 120) rfl rfl) (qgw_of (i := 369) rfl rfl) rfl ⟨by decide, by decide, by decide +kernel⟩ rfl rfl rfl ⟨by decide, by decide⟩ (cells' := 8) (slots' := 60) (by decide) (by decide) (by decide) (by decide) rfl (Nat.le_of_ble_eq_true rfl) (show decode prog_9_method_1_code 40 = .ok (.invokespecial 20, 3) from by decide +kernel) (fun u5 H locs hP hD hS => ?_)
  refine j_put (fs' := [.ref q0, .ref q1, .ref q2, .ref q4, .null, .null, .null, .null, .null, .null, .null, .null]) C hP hD hS hk 3 (by decide) (by decide) (qgw_of (i := 395) rfl rfl) rfl rfl (by rw [qy_7_3]; rfl) (by rw [qy_7_3]; rfl) (Nat.le_of_ble_eq_true rfl) rfl (show decode prog_9_method_1_code 43 = .ok (.putfield 27, 3) from by decide +kernel) (fun H locs hP hD hS => ?_)
  refine lv_aload_n C.1 C.2.1 (show decode prog_9_method_1_code 46 = .ok (.aload_n 0, 1) from by decide +kernel) rfl (lv_at hl 0 rfl) ?_
  refine j_newc C hP hD hS 8 3 (by decide) (by decide) qdf_8 (qgw_of (i := 366) rfl rfl) (qgw_of (i := 367) rfl rfl) (qgw_of (i := 120) rfl rfl) (cells' := 9) (slots' := 63) (by decide) (by decide) (by decide) (by decide) (show decode prog_9_method_1_code 47 = .ok (.new 18, 3) from by decide +kernel) (fun q6 H hP hD hS => ?_)
  refine lv_dup C.1 C.2.1 (show decode prog_9_method_1_code 50 = .ok (.dup, 1) from by decide +kernel) rfl ?_
  refine lv_bipush (v := 20) C.1 C.2.1 (show decode prog_9_method_1_code 51 = .ok (.bipush 20, 2) from by decide +kernel) (by decide) ?_
  refine j_call (as := [.int 20]) (rest := [.ref q6, .ref a]) C hl.1 hP hD hS (ci_Told20 (X := X) (base := base)) (index := 20) (n := 1) (Or.inl (qgw_of (i := 368) rfl rfl)) (qgw_of (i := 370) rfl rfl) (qgw_of (i := 120) rfl rfl) (qgw_of (i := 369) rfl rfl) rfl ⟨by decide, by decide, by decide +kernel⟩ rfl rfl rfl ⟨by decide, by decide⟩ (cells' := 11) (slots' := 103) (by decide) (by decide) (by decide) (by decide) rfl (Nat.le_of_ble_eq_true rfl) (show decode prog_9_method_1_code 53 = .ok (.invokespecial 20, 3) from by decide +kernel) (fun u7 H locs hP hD hS => ?_)
  refine j_put (fs' := [.ref q0, .ref q1, .ref q2, .ref q4, .ref q6, .null, .null, .null, .null, .null, .null, .null]) C hP hD hS hk 4 (by decide) (by decide) (qgw_of (i := 397) rfl rfl) rfl rfl (by rw [qy_7_4]; rfl) (by rw [qy_7_4]; rfl) (Nat.le_of_ble_eq_true rfl) rfl (show decode prog_9_method_1_code 56 = .ok (.putfield 30, 3) from by decide +kernel) (fun H locs hP hD hS => ?_)
  refine lv_aload_n C.1 C.2.1 (show decode prog_9_method_1_code 59 = .ok (.aload_n 0, 1) from by decide +kernel) rfl (lv_at hl 0 rfl) ?_
  refine j_newc C hP hD hS 8 3 (by decide) (by decide) qdf_8 (qgw_of (i := 366) rfl rfl) (qgw_of (i := 367) rfl rfl) (qgw_of (i := 120) rfl rfl) (cells' := 12) (slots' := 106) (by decide) (by decide) (by decide) (by decide) (show decode prog_9_method_1_code 60 = .ok (.new 18, 3) from by decide +kernel) (fun q8 H hP hD hS => ?_)
  refine lv_dup C.1 C.2.1 (show decode prog_9_method_1_code 63 = .ok (.dup, 1) from by decide +kernel) rfl ?_
  refine lv_bipush (v := 8) C.1 C.2.1 (show decode prog_9_method_1_code 64 = .ok (.bipush 8, 2) from by decide +kernel) (by decide) ?_
  refine j_call (as := [.int 8]) (rest := [.ref q8, .ref a]) C hl.1 hP hD hS (ci_Told8 (X := X) (base := base)) (index := 20) (n := 1) (Or.inl (qgw_of (i := 368) rfl rfl)) (qgw_of (i := 370) rfl rfl) (qgw_of (i := 120) rfl rfl) (qgw_of (i := 369) rfl rfl) rfl ⟨by decide, by decide, by decide +kernel⟩ rfl rfl rfl ⟨by decide, by decide⟩ (cells' := 14) (slots' := 122) (by decide) (by decide) (by decide) (by decide) rfl (Nat.le_of_ble_eq_true rfl) (show decode prog_9_method_1_code 66 = .ok (.invokespecial 20, 3) from by decide +kernel) (fun u9 H locs hP hD hS => ?_)
  refine j_put (fs' := [.ref q0, .ref q1, .ref q2, .ref q4, .ref q6, .ref q8, .null, .null, .null, .null, .null, .null]) C hP hD hS hk 5 (by decide) (by decide) (qgw_of (i := 399) rfl rfl) rfl rfl (by rw [qy_7_5]; rfl) (by rw [qy_7_5]; rfl) (Nat.le_of_ble_eq_true rfl) rfl (show decode prog_9_method_1_code 69 = .ok (.putfield 33, 3) from by decide +kernel) (fun H locs hP hD hS => ?_)
  refine lv_aload_n C.1 C.2.1 (show decode prog_9_method_1_code 72 = .ok (.aload_n 0, 1) from by decide +kernel) rfl (lv_at hl 0 rfl) ?_
  refine j_newc C hP hD hS 8 3 (by decide) (by decide) qdf_8 (qgw_of (i := 366) rfl rfl) (qgw_of (i := 367) rfl rfl) (qgw_of (i := 120) rfl rfl) (cells' := 15) (slots' := 125) (by decide) (by decide) (by decide) (by decide) (show decode prog_9_method_1_code 73 = .ok (.new 18, 3) from by decide +kernel) (fun q10 H hP hD hS => ?_)
  refine lv_dup C.1 C.2.1 (show decode prog_9_method_1_code 76 = .ok (.dup, 1) from by decide +kernel) rfl ?_
  refine lv_bipush (v := 12) C.1 C.2.1 (show decode prog_9_method_1_code 77 = .ok (.bipush 12, 2) from by decide +kernel) (by decide) ?_
  refine j_call (as := [.int 12]) (rest := [.ref q10, .ref a]) C hl.1 hP hD hS (ci_Told12 (X := X) (base := base)) (index := 20) (n := 1) (Or.inl (qgw_of (i := 368) rfl rfl)) (qgw_of (i := 370) rfl rfl) (qgw_of (i := 120) rfl rfl) (qgw_of (i := 369) rfl rfl) rfl ⟨by decide, by decide, by decide +kernel⟩ rfl rfl rfl ⟨by decide, by decide⟩ (cells' := 17) (slots' := 149) (by decide) (by decide) (by decide) (by decide) rfl (Nat.le_of_ble_eq_true rfl) (show decode prog_9_method_1_code 79 = .ok (.invokespecial 20, 3) from by decide +kernel) (fun u11 H locs hP hD hS => ?_)
  refine j_put (fs' := [.ref q0, .ref q1, .ref q2, .ref q4, .ref q6, .ref q8, .ref q10, .null, .null, .null, .null, .null]) C hP hD hS hk 6 (by decide) (by decide) (qgw_of (i := 401) rfl rfl) rfl rfl (by rw [qy_7_6]; rfl) (by rw [qy_7_6]; rfl) (Nat.le_of_ble_eq_true rfl) rfl (show decode prog_9_method_1_code 82 = .ok (.putfield 36, 3) from by decide +kernel) (fun H locs hP hD hS => ?_)
  refine lv_aload_n C.1 C.2.1 (show decode prog_9_method_1_code 85 = .ok (.aload_n 0, 1) from by decide +kernel) rfl (lv_at hl 0 rfl) ?_
  refine lv_bipush (v := 31) C.1 C.2.1 (show decode prog_9_method_1_code 86 = .ok (.bipush 31, 2) from by decide +kernel) (by decide) ?_
  refine j_newI C hP hD hS 31 (by decide) (by decide) (by decide) (cells' := 18) (slots' := 180) (by decide) (by decide) (by decide) (by decide) (show decode prog_9_method_1_code 88 = .ok (.newarray .int, 2) from by decide +kernel) (fun q12 H hP hD hS => ?_)
  refine j_put (fs' := [.ref q0, .ref q1, .ref q2, .ref q4, .ref q6, .ref q8, .ref q10, .ref q12, .null, .null, .null, .null]) C hP hD hS hk 7 (by decide) (by decide) (qgw_of (i := 403) rfl rfl) rfl rfl (by rw [qy_7_7]; rfl) (by rw [qy_7_7]; rfl) (Nat.le_of_ble_eq_true rfl) rfl (show decode prog_9_method_1_code 90 = .ok (.putfield 39, 3) from by decide +kernel) (fun H locs hP hD hS => ?_)
  refine lv_aload_n C.1 C.2.1 (show decode prog_9_method_1_code 93 = .ok (.aload_n 0, 1) from by decide +kernel) rfl (lv_at hl 0 rfl) ?_
  refine lv_iconst (v := 4) C.1 C.2.1 (show decode prog_9_method_1_code 94 = .ok (.iconst 4, 1) from by decide +kernel) (by decide) ?_
  refine j_newI C hP hD hS 4 (by decide) (by decide) (by decide) (cells' := 19) (slots' := 184) (by decide) (by decide) (by decide) (by decide) (show decode prog_9_method_1_code 95 = .ok (.newarray .int, 2) from by decide +kernel) (fun q13 H hP hD hS => ?_)
  refine j_put (fs' := [.ref q0, .ref q1, .ref q2, .ref q4, .ref q6, .ref q8, .ref q10, .ref q12, .ref q13, .null, .null, .null]) C hP hD hS hk 8 (by decide) (by decide) (qgw_of (i := 404) rfl rfl) rfl rfl (by rw [qy_7_8]; rfl) (by rw [qy_7_8]; rfl) (Nat.le_of_ble_eq_true rfl) rfl (show decode prog_9_method_1_code 97 = .ok (.putfield 42, 3) from by decide +kernel) (fun H locs hP hD hS => ?_)
  refine lv_aload_n C.1 C.2.1 (show decode prog_9_method_1_code 100 = .ok (.aload_n 0, 1) from by decide +kernel) rfl (lv_at hl 0 rfl) ?_
  refine lv_bipush (v := 20) C.1 C.2.1 (show decode prog_9_method_1_code 101 = .ok (.bipush 20, 2) from by decide +kernel) (by decide) ?_
  refine j_newI C hP hD hS 20 (by decide) (by decide) (by decide) (cells' := 20) (slots' := 204) (by decide) (by decide) (by decide) (by decide) (show decode prog_9_method_1_code 103 = .ok (.newarray .int, 2) from by decide +kernel) (fun q14 H hP hD hS => ?_)
  refine j_put (fs' := [.ref q0, .ref q1, .ref q2, .ref q4, .ref q6, .ref q8, .ref q10, .ref q12, .ref q13, .ref q14, .null, .null]) C hP hD hS hk 9 (by decide) (by decide) (qgw_of (i := 405) rfl rfl) rfl rfl (by rw [qy_7_9]; rfl) (by rw [qy_7_9]; rfl) (Nat.le_of_ble_eq_true rfl) rfl (show decode prog_9_method_1_code 105 = .ok (.putfield 45, 3) from by decide +kernel) (fun H locs hP hD hS => ?_)
  refine lv_aload_n C.1 C.2.1 (show decode prog_9_method_1_code 108 = .ok (.aload_n 0, 1) from by decide +kernel) rfl (lv_at hl 0 rfl) ?_
  refine lv_bipush (v := 12) C.1 C.2.1 (show decode prog_9_method_1_code 109 = .ok (.bipush 12, 2) from by decide +kernel) (by decide) ?_
  refine j_newI C hP hD hS 12 (by decide) (by decide) (by decide) (cells' := 21) (slots' := 216) (by decide) (by decide) (by decide) (by decide) (show decode prog_9_method_1_code 111 = .ok (.newarray .int, 2) from by decide +kernel) (fun q15 H hP hD hS => ?_)
  refine j_put (fs' := [.ref q0, .ref q1, .ref q2, .ref q4, .ref q6, .ref q8, .ref q10, .ref q12, .ref q13, .ref q14, .ref q15, .null]) C hP hD hS hk 10 (by decide) (by decide) (qgw_of (i := 406) rfl rfl) rfl rfl (by rw [qy_7_10]; rfl) (by rw [qy_7_10]; rfl) (Nat.le_of_ble_eq_true rfl) rfl (show decode prog_9_method_1_code 113 = .ok (.putfield 48, 3) from by decide +kernel) (fun H locs hP hD hS => ?_)
  refine lv_aload_n C.1 C.2.1 (show decode prog_9_method_1_code 116 = .ok (.aload_n 0, 1) from by decide +kernel) rfl (lv_at hl 0 rfl) ?_
  refine lv_bipush (v := 12) C.1 C.2.1 (show decode prog_9_method_1_code 117 = .ok (.bipush 12, 2) from by decide +kernel) (by decide) ?_
  refine j_newI C hP hD hS 12 (by decide) (by decide) (by decide) (cells' := 22) (slots' := 228) (by decide) (by decide) (by decide) (by decide) (show decode prog_9_method_1_code 119 = .ok (.newarray .int, 2) from by decide +kernel) (fun q16 H hP hD hS => ?_)
  refine j_put (fs' := [.ref q0, .ref q1, .ref q2, .ref q4, .ref q6, .ref q8, .ref q10, .ref q12, .ref q13, .ref q14, .ref q15, .ref q16]) C hP hD hS hk 11 (by decide) (by decide) (qgw_of (i := 407) rfl rfl) rfl rfl (by rw [qy_7_11]; rfl) (by rw [qy_7_11]; rfl) (Nat.le_of_ble_eq_true rfl) rfl (show decode prog_9_method_1_code 121 = .ok (.putfield 51, 3) from by decide +kernel) (fun H locs hP hD hS => ?_)
  refine lv_iconst (v := 0) C.1 C.2.1 (show decode prog_9_method_1_code 124 = .ok (.iconst 0, 1) from by decide +kernel) (by decide) ?_
  refine lv_istore_n (lv' := [(1, .int 0), (0, .ref a)]) C.1 C.2.1 (show decode prog_9_method_1_code 125 = .ok (.istore_n 1, 1) from by decide +kernel) rfl hl (by decide) rfl (fun ls hl => ?_)
  refine lv_iload_n C.1 C.2.1 (show decode prog_9_method_1_code 126 = .ok (.iload_n 1, 1) from by decide +kernel) rfl (lv_at hl 0 rfl) ?_
  refine lv_bipush (v := 8) C.1 C.2.1 (show decode prog_9_method_1_code 127 = .ok (.bipush 8, 2) from by decide +kernel) (by decide) ?_
  refine lv_icmp_ge (tgt := 145) C.1 C.2.1 (show decode prog_9_method_1_code 129 = .ok (.if_icmp .ge 16, 3) from by decide +kernel) (by decide) (fun hz => absurd hz (by decide)) (fun _ => ?_)
  refine lv_aload_n C.1 C.2.1 (show decode prog_9_method_1_code 132 = .ok (.aload_n 0, 1) from by decide +kernel) rfl (lv_at hl 1 rfl) ?_
  refine j_get C hP hk 1 (v := .ref q1) (by decide) (by decide) (qgw_of (i := 391) rfl rfl) rfl rfl (show decode prog_9_method_1_code 133 = .ok (.getfield 15, 3) from by decide +kernel) ?_
  refine lv_iload_n C.1 C.2.1 (show decode prog_9_method_1_code 136 = .ok (.iload_n 1, 1) from by decide +kernel) rfl (lv_at hl 0 rfl) ?_
  refine lv_iload_n C.1 C.2.1 (show decode prog_9_method_1_code 137 = .ok (.iload_n 1, 1) from by decide +kernel) rfl (lv_at hl 0 rfl) ?_
  refine j_iast C hP hD hS (q := q1) 1 rfl (by unfold vp_in; decide) (show decode prog_9_method_1_code 138 = .ok (.iastore, 1) from by decide +kernel) (fun H locs hP hD hS => ?_)
  refine lv_iinc (k := 0) (v := 1) (lv' := [(1, .int 1), (0, .ref a)]) C.1 C.2.1 (show decode prog_9_method_1_code 139 = .ok (.iinc 1 1, 3) from by decide +kernel) hl rfl (by decide) (by decide) rfl (fun ls hl => ?_)
  refine lv_goto (tgt := 126) C.1 C.2.1 (show decode prog_9_method_1_code 142 = .ok (.goto (-16), 3) from by decide +kernel) (by decide) ?_
  refine lv_iload_n C.1 C.2.1 (show decode prog_9_method_1_code 126 = .ok (.iload_n 1, 1) from by decide +kernel) rfl (lv_at hl 0 rfl) ?_
  refine lv_bipush (v := 8) C.1 C.2.1 (show decode prog_9_method_1_code 127 = .ok (.bipush 8, 2) from by decide +kernel) (by decide) ?_
  refine lv_icmp_ge (tgt := 145) C.1 C.2.1 (show decode prog_9_method_1_code 129 = .ok (.if_icmp .ge 16, 3) from by decide +kernel) (by decide) (fun hz => absurd hz (by decide)) (fun _ => ?_)
  refine lv_aload_n C.1 C.2.1 (show decode prog_9_method_1_code 132 = .ok (.aload_n 0, 1) from by decide +kernel) rfl (lv_at hl 1 rfl) ?_
  refine j_get C hP hk 1 (v := .ref q1) (by decide) (by decide) (qgw_of (i := 391) rfl rfl) rfl rfl (show decode prog_9_method_1_code 133 = .ok (.getfield 15, 3) from by decide +kernel) ?_
  refine lv_iload_n C.1 C.2.1 (show decode prog_9_method_1_code 136 = .ok (.iload_n 1, 1) from by decide +kernel) rfl (lv_at hl 0 rfl) ?_
  refine lv_iload_n C.1 C.2.1 (show decode prog_9_method_1_code 137 = .ok (.iload_n 1, 1) from by decide +kernel) rfl (lv_at hl 0 rfl) ?_
  refine j_iast C hP hD hS (q := q1) 1 rfl (by unfold vp_in; decide) (show decode prog_9_method_1_code 138 = .ok (.iastore, 1) from by decide +kernel) (fun H locs hP hD hS => ?_)
  refine lv_iinc (k := 0) (v := 2) (lv' := [(1, .int 2), (0, .ref a)]) C.1 C.2.1 (show decode prog_9_method_1_code 139 = .ok (.iinc 1 1, 3) from by decide +kernel) hl rfl (by decide) (by decide) rfl (fun ls hl => ?_)
  refine lv_goto (tgt := 126) C.1 C.2.1 (show decode prog_9_method_1_code 142 = .ok (.goto (-16), 3) from by decide +kernel) (by decide) ?_
  refine lv_iload_n C.1 C.2.1 (show decode prog_9_method_1_code 126 = .ok (.iload_n 1, 1) from by decide +kernel) rfl (lv_at hl 0 rfl) ?_
  refine lv_bipush (v := 8) C.1 C.2.1 (show decode prog_9_method_1_code 127 = .ok (.bipush 8, 2) from by decide +kernel) (by decide) ?_
  refine lv_icmp_ge (tgt := 145) C.1 C.2.1 (show decode prog_9_method_1_code 129 = .ok (.if_icmp .ge 16, 3) from by decide +kernel) (by decide) (fun hz => absurd hz (by decide)) (fun _ => ?_)
  refine lv_aload_n C.1 C.2.1 (show decode prog_9_method_1_code 132 = .ok (.aload_n 0, 1) from by decide +kernel) rfl (lv_at hl 1 rfl) ?_
  refine j_get C hP hk 1 (v := .ref q1) (by decide) (by decide) (qgw_of (i := 391) rfl rfl) rfl rfl (show decode prog_9_method_1_code 133 = .ok (.getfield 15, 3) from by decide +kernel) ?_
  refine lv_iload_n C.1 C.2.1 (show decode prog_9_method_1_code 136 = .ok (.iload_n 1, 1) from by decide +kernel) rfl (lv_at hl 0 rfl) ?_
  refine lv_iload_n C.1 C.2.1 (show decode prog_9_method_1_code 137 = .ok (.iload_n 1, 1) from by decide +kernel) rfl (lv_at hl 0 rfl) ?_
  refine j_iast C hP hD hS (q := q1) 1 rfl (by unfold vp_in; decide) (show decode prog_9_method_1_code 138 = .ok (.iastore, 1) from by decide +kernel) (fun H locs hP hD hS => ?_)
  refine lv_iinc (k := 0) (v := 3) (lv' := [(1, .int 3), (0, .ref a)]) C.1 C.2.1 (show decode prog_9_method_1_code 139 = .ok (.iinc 1 1, 3) from by decide +kernel) hl rfl (by decide) (by decide) rfl (fun ls hl => ?_)
  refine lv_goto (tgt := 126) C.1 C.2.1 (show decode prog_9_method_1_code 142 = .ok (.goto (-16), 3) from by decide +kernel) (by decide) ?_
  refine lv_iload_n C.1 C.2.1 (show decode prog_9_method_1_code 126 = .ok (.iload_n 1, 1) from by decide +kernel) rfl (lv_at hl 0 rfl) ?_
  refine lv_bipush (v := 8) C.1 C.2.1 (show decode prog_9_method_1_code 127 = .ok (.bipush 8, 2) from by decide +kernel) (by decide) ?_
  refine lv_icmp_ge (tgt := 145) C.1 C.2.1 (show decode prog_9_method_1_code 129 = .ok (.if_icmp .ge 16, 3) from by decide +kernel) (by decide) (fun hz => absurd hz (by decide)) (fun _ => ?_)
  refine lv_aload_n C.1 C.2.1 (show decode prog_9_method_1_code 132 = .ok (.aload_n 0, 1) from by decide +kernel) rfl (lv_at hl 1 rfl) ?_
  refine j_get C hP hk 1 (v := .ref q1) (by decide) (by decide) (qgw_of (i := 391) rfl rfl) rfl rfl (show decode prog_9_method_1_code 133 = .ok (.getfield 15, 3) from by decide +kernel) ?_
  refine lv_iload_n C.1 C.2.1 (show decode prog_9_method_1_code 136 = .ok (.iload_n 1, 1) from by decide +kernel) rfl (lv_at hl 0 rfl) ?_
  refine lv_iload_n C.1 C.2.1 (show decode prog_9_method_1_code 137 = .ok (.iload_n 1, 1) from by decide +kernel) rfl (lv_at hl 0 rfl) ?_
  refine j_iast C hP hD hS (q := q1) 1 rfl (by unfold vp_in; decide) (show decode prog_9_method_1_code 138 = .ok (.iastore, 1) from by decide +kernel) (fun H locs hP hD hS => ?_)
  refine lv_iinc (k := 0) (v := 4) (lv' := [(1, .int 4), (0, .ref a)]) C.1 C.2.1 (show decode prog_9_method_1_code 139 = .ok (.iinc 1 1, 3) from by decide +kernel) hl rfl (by decide) (by decide) rfl (fun ls hl => ?_)
  refine lv_goto (tgt := 126) C.1 C.2.1 (show decode prog_9_method_1_code 142 = .ok (.goto (-16), 3) from by decide +kernel) (by decide) ?_
  refine lv_iload_n C.1 C.2.1 (show decode prog_9_method_1_code 126 = .ok (.iload_n 1, 1) from by decide +kernel) rfl (lv_at hl 0 rfl) ?_
  refine lv_bipush (v := 8) C.1 C.2.1 (show decode prog_9_method_1_code 127 = .ok (.bipush 8, 2) from by decide +kernel) (by decide) ?_
  refine lv_icmp_ge (tgt := 145) C.1 C.2.1 (show decode prog_9_method_1_code 129 = .ok (.if_icmp .ge 16, 3) from by decide +kernel) (by decide) (fun hz => absurd hz (by decide)) (fun _ => ?_)
  refine lv_aload_n C.1 C.2.1 (show decode prog_9_method_1_code 132 = .ok (.aload_n 0, 1) from by decide +kernel) rfl (lv_at hl 1 rfl) ?_
  refine j_get C hP hk 1 (v := .ref q1) (by decide) (by decide) (qgw_of (i := 391) rfl rfl) rfl rfl (show decode prog_9_method_1_code 133 = .ok (.getfield 15, 3) from by decide +kernel) ?_
  refine lv_iload_n C.1 C.2.1 (show decode prog_9_method_1_code 136 = .ok (.iload_n 1, 1) from by decide +kernel) rfl (lv_at hl 0 rfl) ?_
  refine lv_iload_n C.1 C.2.1 (show decode prog_9_method_1_code 137 = .ok (.iload_n 1, 1) from by decide +kernel) rfl (lv_at hl 0 rfl) ?_
  refine j_iast C hP hD hS (q := q1) 1 rfl (by unfold vp_in; decide) (show decode prog_9_method_1_code 138 = .ok (.iastore, 1) from by decide +kernel) (fun H locs hP hD hS => ?_)
  refine lv_iinc (k := 0) (v := 5) (lv' := [(1, .int 5), (0, .ref a)]) C.1 C.2.1 (show decode prog_9_method_1_code 139 = .ok (.iinc 1 1, 3) from by decide +kernel) hl rfl (by decide) (by decide) rfl (fun ls hl => ?_)
  refine lv_goto (tgt := 126) C.1 C.2.1 (show decode prog_9_method_1_code 142 = .ok (.goto (-16), 3) from by decide +kernel) (by decide) ?_
  refine lv_iload_n C.1 C.2.1 (show decode prog_9_method_1_code 126 = .ok (.iload_n 1, 1) from by decide +kernel) rfl (lv_at hl 0 rfl) ?_
  refine lv_bipush (v := 8) C.1 C.2.1 (show decode prog_9_method_1_code 127 = .ok (.bipush 8, 2) from by decide +kernel) (by decide) ?_
  refine lv_icmp_ge (tgt := 145) C.1 C.2.1 (show decode prog_9_method_1_code 129 = .ok (.if_icmp .ge 16, 3) from by decide +kernel) (by decide) (fun hz => absurd hz (by decide)) (fun _ => ?_)
  refine lv_aload_n C.1 C.2.1 (show decode prog_9_method_1_code 132 = .ok (.aload_n 0, 1) from by decide +kernel) rfl (lv_at hl 1 rfl) ?_
  refine j_get C hP hk 1 (v := .ref q1) (by decide) (by decide) (qgw_of (i := 391) rfl rfl) rfl rfl (show decode prog_9_method_1_code 133 = .ok (.getfield 15, 3) from by decide +kernel) ?_
  refine lv_iload_n C.1 C.2.1 (show decode prog_9_method_1_code 136 = .ok (.iload_n 1, 1) from by decide +kernel) rfl (lv_at hl 0 rfl) ?_
  refine lv_iload_n C.1 C.2.1 (show decode prog_9_method_1_code 137 = .ok (.iload_n 1, 1) from by decide +kernel) rfl (lv_at hl 0 rfl) ?_
  refine j_iast C hP hD hS (q := q1) 1 rfl (by unfold vp_in; decide) (show decode prog_9_method_1_code 138 = .ok (.iastore, 1) from by decide +kernel) (fun H locs hP hD hS => ?_)
  refine lv_iinc (k := 0) (v := 6) (lv' := [(1, .int 6), (0, .ref a)]) C.1 C.2.1 (show decode prog_9_method_1_code 139 = .ok (.iinc 1 1, 3) from by decide +kernel) hl rfl (by decide) (by decide) rfl (fun ls hl => ?_)
  refine lv_goto (tgt := 126) C.1 C.2.1 (show decode prog_9_method_1_code 142 = .ok (.goto (-16), 3) from by decide +kernel) (by decide) ?_
  refine lv_iload_n C.1 C.2.1 (show decode prog_9_method_1_code 126 = .ok (.iload_n 1, 1) from by decide +kernel) rfl (lv_at hl 0 rfl) ?_
  refine lv_bipush (v := 8) C.1 C.2.1 (show decode prog_9_method_1_code 127 = .ok (.bipush 8, 2) from by decide +kernel) (by decide) ?_
  refine lv_icmp_ge (tgt := 145) C.1 C.2.1 (show decode prog_9_method_1_code 129 = .ok (.if_icmp .ge 16, 3) from by decide +kernel) (by decide) (fun hz => absurd hz (by decide)) (fun _ => ?_)
  refine lv_aload_n C.1 C.2.1 (show decode prog_9_method_1_code 132 = .ok (.aload_n 0, 1) from by decide +kernel) rfl (lv_at hl 1 rfl) ?_
  refine j_get C hP hk 1 (v := .ref q1) (by decide) (by decide) (qgw_of (i := 391) rfl rfl) rfl rfl (show decode prog_9_method_1_code 133 = .ok (.getfield 15, 3) from by decide +kernel) ?_
  refine lv_iload_n C.1 C.2.1 (show decode prog_9_method_1_code 136 = .ok (.iload_n 1, 1) from by decide +kernel) rfl (lv_at hl 0 rfl) ?_
  refine lv_iload_n C.1 C.2.1 (show decode prog_9_method_1_code 137 = .ok (.iload_n 1, 1) from by decide +kernel) rfl (lv_at hl 0 rfl) ?_
  refine j_iast C hP hD hS (q := q1) 1 rfl (by unfold vp_in; decide) (show decode prog_9_method_1_code 138 = .ok (.iastore, 1) from by decide +kernel) (fun H locs hP hD hS => ?_)
  refine lv_iinc (k := 0) (v := 7) (lv' := [(1, .int 7), (0, .ref a)]) C.1 C.2.1 (show decode prog_9_method_1_code 139 = .ok (.iinc 1 1, 3) from by decide +kernel) hl rfl (by decide) (by decide) rfl (fun ls hl => ?_)
  refine lv_goto (tgt := 126) C.1 C.2.1 (show decode prog_9_method_1_code 142 = .ok (.goto (-16), 3) from by decide +kernel) (by decide) ?_
  refine lv_iload_n C.1 C.2.1 (show decode prog_9_method_1_code 126 = .ok (.iload_n 1, 1) from by decide +kernel) rfl (lv_at hl 0 rfl) ?_
  refine lv_bipush (v := 8) C.1 C.2.1 (show decode prog_9_method_1_code 127 = .ok (.bipush 8, 2) from by decide +kernel) (by decide) ?_
  refine lv_icmp_ge (tgt := 145) C.1 C.2.1 (show decode prog_9_method_1_code 129 = .ok (.if_icmp .ge 16, 3) from by decide +kernel) (by decide) (fun hz => absurd hz (by decide)) (fun _ => ?_)
  refine lv_aload_n C.1 C.2.1 (show decode prog_9_method_1_code 132 = .ok (.aload_n 0, 1) from by decide +kernel) rfl (lv_at hl 1 rfl) ?_
  refine j_get C hP hk 1 (v := .ref q1) (by decide) (by decide) (qgw_of (i := 391) rfl rfl) rfl rfl (show decode prog_9_method_1_code 133 = .ok (.getfield 15, 3) from by decide +kernel) ?_
  refine lv_iload_n C.1 C.2.1 (show decode prog_9_method_1_code 136 = .ok (.iload_n 1, 1) from by decide +kernel) rfl (lv_at hl 0 rfl) ?_
  refine lv_iload_n C.1 C.2.1 (show decode prog_9_method_1_code 137 = .ok (.iload_n 1, 1) from by decide +kernel) rfl (lv_at hl 0 rfl) ?_
  refine j_iast C hP hD hS (q := q1) 1 rfl (by unfold vp_in; decide) (show decode prog_9_method_1_code 138 = .ok (.iastore, 1) from by decide +kernel) (fun H locs hP hD hS => ?_)
  refine lv_iinc (k := 0) (v := 8) (lv' := [(1, .int 8), (0, .ref a)]) C.1 C.2.1 (show decode prog_9_method_1_code 139 = .ok (.iinc 1 1, 3) from by decide +kernel) hl rfl (by decide) (by decide) rfl (fun ls hl => ?_)
  refine lv_goto (tgt := 126) C.1 C.2.1 (show decode prog_9_method_1_code 142 = .ok (.goto (-16), 3) from by decide +kernel) (by decide) ?_
  refine lv_iload_n C.1 C.2.1 (show decode prog_9_method_1_code 126 = .ok (.iload_n 1, 1) from by decide +kernel) rfl (lv_at hl 0 rfl) ?_
  refine lv_bipush (v := 8) C.1 C.2.1 (show decode prog_9_method_1_code 127 = .ok (.bipush 8, 2) from by decide +kernel) (by decide) ?_
  refine lv_icmp_ge (tgt := 145) C.1 C.2.1 (show decode prog_9_method_1_code 129 = .ok (.if_icmp .ge 16, 3) from by decide +kernel) (by decide) (fun _ => ?_) (fun hz => absurd (by decide) hz)
  exact j_ret (o := oTh) (mk := mkTh X) C (q0, q1, q2, u3, q4, u5, q6, u7, q8, u9, q10, u11, q12, q13, q14, q15, q16) hP hD hS (show decode prog_9_method_1_code 145 = .ok (.return_, 1) from by decide +kernel)
